abbrev m_G_init : MT := (⟨"GroupLog", "<init>", "(I)V"⟩, prog_1_method_1_code, 3, (none : Option FieldType), { frames := 3, cells := 40, slots := 2000, locals := 62 })
theorem pf_G_init : plainFor m_G_init.1 = true := by decide +kernel
theorem d_G_init_0 : decode prog_1_method_1_code 0 = .ok (.aload_n 0, 1) := by decide +kernel
theorem d_G_init_1 : decode prog_1_method_1_code 1 = .ok (.invokespecial 1, 3) := by decide +kernel
theorem d_G_init_4 : decode prog_1_method_1_code 4 = .ok (.aload_n 0, 1) := by decide +kernel
theorem d_G_init_5 : decode prog_1_method_1_code 5 = .ok (.bipush 64, 2) := by decide +kernel
theorem d_G_init_7 : decode prog_1_method_1_code 7 = .ok (.anewarray 9, 3) := by decide +kernel
theorem d_G_init_10 : decode prog_1_method_1_code 10 = .ok (.putfield 11, 3) := by decide +kernel
theorem d_G_init_13 : decode prog_1_method_1_code 13 = .ok (.aload_n 0, 1) := by decide +kernel
theorem d_G_init_14 : decode prog_1_method_1_code 14 = .ok (.iconst 0, 1) := by decide +kernel
theorem d_G_init_15 : decode prog_1_method_1_code 15 = .ok (.putfield 15, 3) := by decide +kernel
theorem d_G_init_18 : decode prog_1_method_1_code 18 = .ok (.aload_n 0, 1) := by decide +kernel
theorem d_G_init_19 : decode prog_1_method_1_code 19 = .ok (.iconst (-1), 1) := by decide +kernel
theorem d_G_init_20 : decode prog_1_method_1_code 20 = .ok (.putfield 19, 3) := by decide +kernel
theorem d_G_init_23 : decode prog_1_method_1_code 23 = .ok (.aload_n 0, 1) := by decide +kernel
theorem d_G_init_24 : decode prog_1_method_1_code 24 = .ok (.iconst 4, 1) := by decide +kernel
theorem d_G_init_25 : decode prog_1_method_1_code 25 = .ok (.newarray .int, 2) := by decide +kernel
theorem d_G_init_27 : decode prog_1_method_1_code 27 = .ok (.putfield 22, 3) := by decide +kernel
theorem d_G_init_30 : decode prog_1_method_1_code 30 = .ok (.aload_n 0, 1) := by decide +kernel
theorem d_G_init_31 : decode prog_1_method_1_code 31 = .ok (.iconst 4, 1) := by decide +kernel
theorem d_G_init_32 : decode prog_1_method_1_code 32 = .ok (.newarray .int, 2) := by decide +kernel
theorem d_G_init_34 : decode prog_1_method_1_code 34 = .ok (.putfield 26, 3) := by decide +kernel
theorem d_G_init_37 : decode prog_1_method_1_code 37 = .ok (.aload_n 0, 1) := by decide +kernel
theorem d_G_init_38 : decode prog_1_method_1_code 38 = .ok (.iload_n 1, 1) := by decide +kernel
theorem d_G_init_39 : decode prog_1_method_1_code 39 = .ok (.iconst 2, 1) := by decide +kernel
theorem d_G_init_40 : decode prog_1_method_1_code 40 = .ok (.irem, 1) := by decide +kernel
theorem d_G_init_41 : decode prog_1_method_1_code 41 = .ok (.ifCond .ne 7, 3) := by decide +kernel
theorem d_G_init_44 : decode prog_1_method_1_code 44 = .ok (.iconst 3, 1) := by decide +kernel
theorem d_G_init_45 : decode prog_1_method_1_code 45 = .ok (.goto 4, 3) := by decide +kernel
theorem d_G_init_48 : decode prog_1_method_1_code 48 = .ok (.iconst 5, 1) := by decide +kernel
theorem d_G_init_49 : decode prog_1_method_1_code 49 = .ok (.putfield 29, 3) := by decide +kernel
theorem d_G_init_52 : decode prog_1_method_1_code 52 = .ok (.aload_n 0, 1) := by decide +kernel
theorem d_G_init_53 : decode prog_1_method_1_code 53 = .ok (.aload_n 0, 1) := by decide +kernel
theorem d_G_init_54 : decode prog_1_method_1_code 54 = .ok (.getfield 29, 3) := by decide +kernel
theorem d_G_init_57 : decode prog_1_method_1_code 57 = .ok (.iconst 2, 1) := by decide +kernel
theorem d_G_init_58 : decode prog_1_method_1_code 58 = .ok (.idiv, 1) := by decide +kernel
theorem d_G_init_59 : decode prog_1_method_1_code 59 = .ok (.putfield 32, 3) := by decide +kernel
theorem d_G_init_62 : decode prog_1_method_1_code 62 = .ok (.aload_n 0, 1) := by decide +kernel
theorem d_G_init_63 : decode prog_1_method_1_code 63 = .ok (.aload_n 0, 1) := by decide +kernel
theorem d_G_init_64 : decode prog_1_method_1_code 64 = .ok (.getfield 29, 3) := by decide +kernel
theorem d_G_init_67 : decode prog_1_method_1_code 67 = .ok (.anewarray 35, 3) := by decide +kernel
theorem d_G_init_70 : decode prog_1_method_1_code 70 = .ok (.putfield 37, 3) := by decide +kernel
theorem d_G_init_73 : decode prog_1_method_1_code 73 = .ok (.iconst 0, 1) := by decide +kernel
theorem d_G_init_74 : decode prog_1_method_1_code 74 = .ok (.istore_n 2, 1) := by decide +kernel
theorem d_G_init_75 : decode prog_1_method_1_code 75 = .ok (.iload_n 2, 1) := by decide +kernel
theorem d_G_init_76 : decode prog_1_method_1_code 76 = .ok (.aload_n 0, 1) := by decide +kernel
theorem d_G_init_77 : decode prog_1_method_1_code 77 = .ok (.getfield 29, 3) := by decide +kernel
theorem d_G_init_80 : decode prog_1_method_1_code 80 = .ok (.if_icmp .ge 27, 3) := by decide +kernel
theorem d_G_init_83 : decode prog_1_method_1_code 83 = .ok (.aload_n 0, 1) := by decide +kernel
theorem d_G_init_84 : decode prog_1_method_1_code 84 = .ok (.getfield 37, 3) := by decide +kernel
theorem d_G_init_87 : decode prog_1_method_1_code 87 = .ok (.iload_n 2, 1) := by decide +kernel
theorem d_G_init_88 : decode prog_1_method_1_code 88 = .ok (.new 35, 3) := by decide +kernel
theorem d_G_init_91 : decode prog_1_method_1_code 91 = .ok (.dup, 1) := by decide +kernel
theorem d_G_init_92 : decode prog_1_method_1_code 92 = .ok (.iload_n 2, 1) := by decide +kernel
theorem d_G_init_93 : decode prog_1_method_1_code 93 = .ok (.aload_n 0, 1) := by decide +kernel
theorem d_G_init_94 : decode prog_1_method_1_code 94 = .ok (.getfield 29, 3) := by decide +kernel
theorem d_G_init_97 : decode prog_1_method_1_code 97 = .ok (.invokespecial 41, 3) := by decide +kernel
theorem d_G_init_100 : decode prog_1_method_1_code 100 = .ok (.aastore, 1) := by decide +kernel
theorem d_G_init_101 : decode prog_1_method_1_code 101 = .ok (.iinc 2 1, 3) := by decide +kernel
theorem d_G_init_104 : decode prog_1_method_1_code 104 = .ok (.goto (-29), 3) := by decide +kernel
theorem d_G_init_107 : decode prog_1_method_1_code 107 = .ok (.return_, 1) := by decide +kernel
theorem b_G_init_0 {l : Launch} {D : va_G} {cid : Nat → ClassId} {X : CT} {Post : PT} (hX : OK l D cid m_G_init X Post) : SS l D cid m_G_init X 0 [o_aload 0, o_obj, o_aload 0, o_push (.int 64), o_newQ 2, o_put okR 3 3, o_aload 0, o_push (.int 0), o_put okI 3 4, o_aload 0, o_push (.int (-1)), o_put okI 3 5, o_aload 0, o_push (.int 4), o_newI 0, o_put okR 3 6, o_aload 0, o_push (.int 4), o_newI 0, o_put okR 3 7, o_aload 0, o_iload 1, o_push (.int 2), o_binz (fun x y => x - x / y * y)] (t_if (fun x => ¬ x = 0) (FR l D cid m_G_init X 48) (FR l D cid m_G_init X 44)) := by
  refine SS.cons (so_aload_n hX d_G_init_0 rfl) ?_
  refine SS.cons (so_obj hX d_G_init_1 k_56 k_57 k_58 (by decide) (by decide)) ?_
  refine SS.cons (so_aload_n hX d_G_init_4 rfl) ?_
  refine SS.cons (so_bipush hX d_G_init_5 (by decide)) ?_
  refine SS.cons (so_newQ hX d_G_init_7 k_59 hX.2.2.2.2.2.2.2.2.1.1 rfl) ?_
  refine SS.cons (so_putF (C := R_G) (T := T_G) (ok_A _) hX d_G_init_10 in_G ty_G nm_G rfl (by decide) k_162 rfl rfl rfl rfl) ?_
  refine SS.cons (so_aload_n hX d_G_init_13 rfl) ?_
  refine SS.cons (so_iconst hX d_G_init_14 (by decide)) ?_
  refine SS.cons (so_put (C := R_G) (T := T_G) ok_I hX d_G_init_15 in_G ty_G nm_G rfl (by decide) k_163 rfl rfl) ?_
  refine SS.cons (so_aload_n hX d_G_init_18 rfl) ?_
  refine SS.cons (so_iconst hX d_G_init_19 (by decide)) ?_
  refine SS.cons (so_put (C := R_G) (T := T_G) ok_I hX d_G_init_20 in_G ty_G nm_G rfl (by decide) k_164 rfl rfl) ?_
  refine SS.cons (so_aload_n hX d_G_init_23 rfl) ?_
  refine SS.cons (so_iconst hX d_G_init_24 (by decide)) ?_
  refine SS.cons (so_newI hX d_G_init_25 rfl k_99 rfl (by decide) nw_0) ?_
  refine SS.cons (so_putF (C := R_G) (T := T_G) (ok_A _) hX d_G_init_27 in_G ty_G nm_G rfl (by decide) k_165 rfl rfl rfl rfl) ?_
  refine SS.cons (so_aload_n hX d_G_init_30 rfl) ?_
  refine SS.cons (so_iconst hX d_G_init_31 (by decide)) ?_
  refine SS.cons (so_newI hX d_G_init_32 rfl k_99 rfl (by decide) nw_0) ?_
  refine SS.cons (so_putF (C := R_G) (T := T_G) (ok_A _) hX d_G_init_34 in_G ty_G nm_G rfl (by decide) k_166 rfl rfl rfl rfl) ?_
  refine SS.cons (so_aload_n hX d_G_init_37 rfl) ?_
  refine SS.cons (so_iload_n hX d_G_init_38 rfl) ?_
  refine SS.cons (so_iconst hX d_G_init_39 (by decide)) ?_
  refine SS.cons (so_irem hX d_G_init_40) ?_
  exact st_if_ne hX d_G_init_41 (by decide)
theorem b_G_init_44 {l : Launch} {D : va_G} {cid : Nat → ClassId} {X : CT} {Post : PT} (hX : OK l D cid m_G_init X Post) : SS l D cid m_G_init X 44 [o_push (.int 3)] (FR l D cid m_G_init X 49) := by
  refine SS.cons (so_iconst hX d_G_init_44 (by decide)) ?_
  exact so_goto hX d_G_init_45 (by decide)
theorem b_G_init_48 {l : Launch} {D : va_G} {cid : Nat → ClassId} {X : CT} {Post : PT} (hX : OK l D cid m_G_init X Post) : SS l D cid m_G_init X 48 [o_push (.int 5)] (FR l D cid m_G_init X 49) := by
  refine SS.cons (so_iconst hX d_G_init_48 (by decide)) ?_
  exact SS.fall
theorem b_G_init_49 {l : Launch} {D : va_G} {cid : Nat → ClassId} {X : CT} {Post : PT} (hX : OK l D cid m_G_init X Post) : SS l D cid m_G_init X 49 [o_put okI 3 0, o_aload 0, o_aload 0, o_getf 3 0, o_push (.int 2), o_binz (fun x y => x / y), o_put okI 3 1, o_aload 0, o_aload 0, o_getf 3 0, o_newQ 3, o_put okR 3 2, o_push (.int 0), o_istore 2] (FR l D cid m_G_init X 75) := by
  refine SS.cons (so_putF (C := R_G) (T := T_G) ok_I hX d_G_init_49 in_G ty_G nm_G rfl (by decide) k_159 rfl rfl rfl rfl) ?_
  refine SS.cons (so_aload_n hX d_G_init_52 rfl) ?_
  refine SS.cons (so_aload_n hX d_G_init_53 rfl) ?_
  refine SS.cons (so_getf (C := R_G) (T := T_G) hX d_G_init_54 in_G rfl (by decide) k_159) ?_
  refine SS.cons (so_iconst hX d_G_init_57 (by decide)) ?_
  refine SS.cons (so_idiv hX d_G_init_58) ?_
  refine SS.cons (so_putF (C := R_G) (T := T_G) ok_I hX d_G_init_59 in_G ty_G nm_G rfl (by decide) k_160 rfl rfl rfl rfl) ?_
  refine SS.cons (so_aload_n hX d_G_init_62 rfl) ?_
  refine SS.cons (so_aload_n hX d_G_init_63 rfl) ?_
  refine SS.cons (so_getf (C := R_G) (T := T_G) hX d_G_init_64 in_G rfl (by decide) k_159) ?_
  refine SS.cons (so_newQ hX d_G_init_67 k_61 hX.2.2.2.2.2.2.2.2.1.2.1 rfl) ?_
  refine SS.cons (so_putF (C := R_G) (T := T_G) (ok_A _) hX d_G_init_70 in_G ty_G nm_G rfl (by decide) k_161 rfl rfl rfl rfl) ?_
  refine SS.cons (so_iconst hX d_G_init_73 (by decide)) ?_
  refine SS.cons (so_istore_n hX d_G_init_74 rfl (by decide)) ?_
  exact SS.fall
theorem b_G_init_75 {l : Launch} {D : va_G} {cid : Nat → ClassId} {X : CT} {Post : PT} (hX : OK l D cid m_G_init X Post) : SS l D cid m_G_init X 75 [o_iload 2, o_aload 0, o_getf 3 0] (t_cmp (fun x y => y ≤ x) (FR l D cid m_G_init X 107) (FR l D cid m_G_init X 83)) := by
  refine SS.cons (so_iload_n hX d_G_init_75 rfl) ?_
  refine SS.cons (so_aload_n hX d_G_init_76 rfl) ?_
  refine SS.cons (so_getf (C := R_G) (T := T_G) hX d_G_init_77 in_G rfl (by decide) k_159) ?_
  exact st_icmp_ge hX d_G_init_80 (by decide)
theorem b_G_init_83 {l : Launch} {D : va_G} {cid : Nat → ClassId} {X : CT} {Post : PT} (hX : OK l D cid m_G_init X Post) : SS l D cid m_G_init X 83 [o_aload 0, o_getf 3 2, o_iload 2, o_new 2 13 df_P, o_dup, o_iload 2, o_aload 0, o_getf 3 0, o_callI l D cid m_P_init 2, o_astq 3 2, o_iinc 2 1] (FR l D cid m_G_init X 75) := by
  refine SS.cons (so_aload_n hX d_G_init_83 rfl) ?_
  refine SS.cons (so_getf (C := R_G) (T := T_G) hX d_G_init_84 in_G rfl (by decide) k_161) ?_
  refine SS.cons (so_iload_n hX d_G_init_87 rfl) ?_
  refine SS.cons (so_new (C := R_P) (T := T_P) hX d_G_init_88 in_P ty_P k_61 k_63 k_46 rfl dv_P) ?_
  refine SS.cons (so_dup hX d_G_init_91) ?_
  refine SS.cons (so_iload_n hX d_G_init_92 rfl) ?_
  refine SS.cons (so_aload_n hX d_G_init_93 rfl) ?_
  refine SS.cons (so_getf (C := R_G) (T := T_G) hX d_G_init_94 in_G rfl (by decide) k_159) ?_
  refine SS.cons (so_callI (M' := m_P_init) hX d_G_init_97 k_66 rfl k_64 k_65 k_46 rfl pf_P_init (by decide) (by decide +kernel) ⟨by decide, by decide⟩) ?_
  refine SS.cons (so_astq (r0 := (R_P, T_P, 13)) hX d_G_init_100 rfl rfl) ?_
  refine SS.cons (so_iinc hX d_G_init_101 (by decide) (by decide)) ?_
  exact so_goto hX d_G_init_104 (by decide)
theorem b_G_init_107 {l : Launch} {D : va_G} {cid : Nat → ClassId} {X : CT} {Post : PT} (hX : OK l D cid m_G_init X Post) : SS l D cid m_G_init X 107 [] (t_ret Post) := by
  exact st_ret hX d_G_init_107 rfl
abbrev m_G_isReplica : MT := (⟨"GroupLog", "isReplica", "(I)Z"⟩, prog_1_method_21_code, 2, (some FieldType.boolean), { frames := 0, cells := 0, slots := 0, locals := 0 })
theorem pf_G_isReplica : plainFor m_G_isReplica.1 = true := by decide +kernel
theorem d_G_isReplica_0 : decode prog_1_method_21_code 0 = .ok (.iload_n 1, 1) := by decide +kernel
theorem d_G_isReplica_1 : decode prog_1_method_21_code 1 = .ok (.ifCond .lt 15, 3) := by decide +kernel
theorem d_G_isReplica_4 : decode prog_1_method_21_code 4 = .ok (.iload_n 1, 1) := by decide +kernel
theorem d_G_isReplica_5 : decode prog_1_method_21_code 5 = .ok (.aload_n 0, 1) := by decide +kernel
theorem d_G_isReplica_6 : decode prog_1_method_21_code 6 = .ok (.getfield 29, 3) := by decide +kernel
theorem d_G_isReplica_9 : decode prog_1_method_21_code 9 = .ok (.if_icmp .ge 7, 3) := by decide +kernel
theorem d_G_isReplica_12 : decode prog_1_method_21_code 12 = .ok (.iconst 1, 1) := by decide +kernel
theorem d_G_isReplica_13 : decode prog_1_method_21_code 13 = .ok (.goto 4, 3) := by decide +kernel
theorem d_G_isReplica_16 : decode prog_1_method_21_code 16 = .ok (.iconst 0, 1) := by decide +kernel
theorem d_G_isReplica_17 : decode prog_1_method_21_code 17 = .ok (.ireturn, 1) := by decide +kernel
theorem b_G_isReplica_0 {l : Launch} {D : va_G} {cid : Nat → ClassId} {X : CT} {Post : PT} (hX : OK l D cid m_G_isReplica X Post) : SS l D cid m_G_isReplica X 0 [o_iload 1] (t_if (fun x => x < 0) (FR l D cid m_G_isReplica X 16) (FR l D cid m_G_isReplica X 4)) := by
  refine SS.cons (so_iload_n hX d_G_isReplica_0 rfl) ?_
  exact st_if_lt hX d_G_isReplica_1 (by decide)
theorem b_G_isReplica_4 {l : Launch} {D : va_G} {cid : Nat → ClassId} {X : CT} {Post : PT} (hX : OK l D cid m_G_isReplica X Post) : SS l D cid m_G_isReplica X 4 [o_iload 1, o_aload 0, o_getf 3 0] (t_cmp (fun x y => y ≤ x) (FR l D cid m_G_isReplica X 16) (FR l D cid m_G_isReplica X 12)) := by
  refine SS.cons (so_iload_n hX d_G_isReplica_4 rfl) ?_
  refine SS.cons (so_aload_n hX d_G_isReplica_5 rfl) ?_
  refine SS.cons (so_getf (C := R_G) (T := T_G) hX d_G_isReplica_6 in_G rfl (by decide) k_159) ?_
  exact st_icmp_ge hX d_G_isReplica_9 (by decide)
theorem b_G_isReplica_12 {l : Launch} {D : va_G} {cid : Nat → ClassId} {X : CT} {Post : PT} (hX : OK l D cid m_G_isReplica X Post) : SS l D cid m_G_isReplica X 12 [o_push (.int 1)] (FR l D cid m_G_isReplica X 17) := by
  refine SS.cons (so_iconst hX d_G_isReplica_12 (by decide)) ?_
  exact so_goto hX d_G_isReplica_13 (by decide)
theorem b_G_isReplica_16 {l : Launch} {D : va_G} {cid : Nat → ClassId} {X : CT} {Post : PT} (hX : OK l D cid m_G_isReplica X Post) : SS l D cid m_G_isReplica X 16 [o_push (.int 0)] (FR l D cid m_G_isReplica X 17) := by
  refine SS.cons (so_iconst hX d_G_isReplica_16 (by decide)) ?_
  exact SS.fall
theorem b_G_isReplica_17 {l : Launch} {D : va_G} {cid : Nat → ClassId} {X : CT} {Post : PT} (hX : OK l D cid m_G_isReplica X Post) : SS l D cid m_G_isReplica X 17 [] (t_zret Post) := by
  exact st_zret hX d_G_isReplica_17 rfl
abbrev m_G_isClient : MT := (⟨"GroupLog", "isClient", "(I)Z"⟩, prog_1_method_22_code, 1, (some FieldType.boolean), { frames := 0, cells := 0, slots := 0, locals := 0 })
theorem pf_G_isClient : plainFor m_G_isClient.1 = true := by decide +kernel
theorem d_G_isClient_0 : decode prog_1_method_22_code 0 = .ok (.iload_n 0, 1) := by decide +kernel
theorem d_G_isClient_1 : decode prog_1_method_22_code 1 = .ok (.ifCond .lt 12, 3) := by decide +kernel
theorem d_G_isClient_4 : decode prog_1_method_22_code 4 = .ok (.iload_n 0, 1) := by decide +kernel
theorem d_G_isClient_5 : decode prog_1_method_22_code 5 = .ok (.iconst 4, 1) := by decide +kernel
theorem d_G_isClient_6 : decode prog_1_method_22_code 6 = .ok (.if_icmp .ge 7, 3) := by decide +kernel
theorem d_G_isClient_9 : decode prog_1_method_22_code 9 = .ok (.iconst 1, 1) := by decide +kernel
theorem d_G_isClient_10 : decode prog_1_method_22_code 10 = .ok (.goto 4, 3) := by decide +kernel
theorem d_G_isClient_13 : decode prog_1_method_22_code 13 = .ok (.iconst 0, 1) := by decide +kernel
theorem d_G_isClient_14 : decode prog_1_method_22_code 14 = .ok (.ireturn, 1) := by decide +kernel
theorem b_G_isClient_0 {l : Launch} {D : va_G} {cid : Nat → ClassId} {X : CT} {Post : PT} (hX : OK l D cid m_G_isClient X Post) : SS l D cid m_G_isClient X 0 [o_iload 0] (t_if (fun x => x < 0) (FR l D cid m_G_isClient X 13) (FR l D cid m_G_isClient X 4)) := by
  refine SS.cons (so_iload_n hX d_G_isClient_0 rfl) ?_
  exact st_if_lt hX d_G_isClient_1 (by decide)
theorem b_G_isClient_4 {l : Launch} {D : va_G} {cid : Nat → ClassId} {X : CT} {Post : PT} (hX : OK l D cid m_G_isClient X Post) : SS l D cid m_G_isClient X 4 [o_iload 0, o_push (.int 4)] (t_cmp (fun x y => y ≤ x) (FR l D cid m_G_isClient X 13) (FR l D cid m_G_isClient X 9)) := by
  refine SS.cons (so_iload_n hX d_G_isClient_4 rfl) ?_
  refine SS.cons (so_iconst hX d_G_isClient_5 (by decide)) ?_
  exact st_icmp_ge hX d_G_isClient_6 (by decide)
theorem b_G_isClient_9 {l : Launch} {D : va_G} {cid : Nat → ClassId} {X : CT} {Post : PT} (hX : OK l D cid m_G_isClient X Post) : SS l D cid m_G_isClient X 9 [o_push (.int 1)] (FR l D cid m_G_isClient X 14) := by
  refine SS.cons (so_iconst hX d_G_isClient_9 (by decide)) ?_
  exact so_goto hX d_G_isClient_10 (by decide)
theorem b_G_isClient_13 {l : Launch} {D : va_G} {cid : Nat → ClassId} {X : CT} {Post : PT} (hX : OK l D cid m_G_isClient X Post) : SS l D cid m_G_isClient X 13 [o_push (.int 0)] (FR l D cid m_G_isClient X 14) := by
  refine SS.cons (so_iconst hX d_G_isClient_13 (by decide)) ?_
  exact SS.fall
theorem b_G_isClient_14 {l : Launch} {D : va_G} {cid : Nat → ClassId} {X : CT} {Post : PT} (hX : OK l D cid m_G_isClient X Post) : SS l D cid m_G_isClient X 14 [] (t_zret Post) := by
  exact st_zret hX d_G_isClient_14 rfl
abbrev m_G_primaryOf : MT := (⟨"GroupLog", "primaryOf", "(I)I"⟩, prog_1_method_24_code, 2, (some FieldType.int), { frames := 1, cells := 0, slots := 0, locals := 22 })
theorem pf_G_primaryOf : plainFor m_G_primaryOf.1 = true := by decide +kernel
theorem d_G_primaryOf_0 : decode prog_1_method_24_code 0 = .ok (.iload_n 1, 1) := by decide +kernel
theorem d_G_primaryOf_1 : decode prog_1_method_24_code 1 = .ok (.aload_n 0, 1) := by decide +kernel
theorem d_G_primaryOf_2 : decode prog_1_method_24_code 2 = .ok (.getfield 29, 3) := by decide +kernel
theorem d_G_primaryOf_5 : decode prog_1_method_24_code 5 = .ok (.invokestatic 158, 3) := by decide +kernel
theorem d_G_primaryOf_8 : decode prog_1_method_24_code 8 = .ok (.ireturn, 1) := by decide +kernel
theorem b_G_primaryOf_0 {l : Launch} {D : va_G} {cid : Nat → ClassId} {X : CT} {Post : PT} (hX : OK l D cid m_G_primaryOf X Post) : SS l D cid m_G_primaryOf X 0 [o_iload 1, o_aload 0, o_getf 3 0, o_callS l D cid m_J_floorMod 2] (t_iret Post) := by
  refine SS.cons (so_iload_n hX d_G_primaryOf_0 rfl) ?_
  refine SS.cons (so_aload_n hX d_G_primaryOf_1 rfl) ?_
  refine SS.cons (so_getf (C := R_G) (T := T_G) hX d_G_primaryOf_2 in_G rfl (by decide) k_159) ?_
  refine SS.cons (so_callS (M' := m_J_floorMod) hX d_G_primaryOf_5 k_205 k_203 k_204 k_49 pf_J_floorMod (by decide) (by decide +kernel) ⟨by decide, by decide⟩) ?_
  exact st_iret hX d_G_primaryOf_8 rfl
abbrev m_G_leads : MT := (⟨"GroupLog", "leads", "(LGroupLog$Replica;)Z"⟩, prog_1_method_25_code, 2, (some FieldType.boolean), { frames := 2, cells := 0, slots := 0, locals := 43 })
theorem pf_G_leads : plainFor m_G_leads.1 = true := by decide +kernel
theorem d_G_leads_0 : decode prog_1_method_25_code 0 = .ok (.aload_n 1, 1) := by decide +kernel
theorem d_G_leads_1 : decode prog_1_method_25_code 1 = .ok (.getfield 97, 3) := by decide +kernel
theorem d_G_leads_4 : decode prog_1_method_25_code 4 = .ok (.ifCond .ne 22, 3) := by decide +kernel
theorem d_G_leads_7 : decode prog_1_method_25_code 7 = .ok (.aload_n 0, 1) := by decide +kernel
theorem d_G_leads_8 : decode prog_1_method_25_code 8 = .ok (.aload_n 1, 1) := by decide +kernel
theorem d_G_leads_9 : decode prog_1_method_25_code 9 = .ok (.getfield 100, 3) := by decide +kernel
theorem d_G_leads_12 : decode prog_1_method_25_code 12 = .ok (.invokevirtual 161, 3) := by decide +kernel
theorem d_G_leads_15 : decode prog_1_method_25_code 15 = .ok (.aload_n 1, 1) := by decide +kernel
theorem d_G_leads_16 : decode prog_1_method_25_code 16 = .ok (.getfield 122, 3) := by decide +kernel
theorem d_G_leads_19 : decode prog_1_method_25_code 19 = .ok (.if_icmp .ne 7, 3) := by decide +kernel
theorem d_G_leads_22 : decode prog_1_method_25_code 22 = .ok (.iconst 1, 1) := by decide +kernel
theorem d_G_leads_23 : decode prog_1_method_25_code 23 = .ok (.goto 4, 3) := by decide +kernel
theorem d_G_leads_26 : decode prog_1_method_25_code 26 = .ok (.iconst 0, 1) := by decide +kernel
theorem d_G_leads_27 : decode prog_1_method_25_code 27 = .ok (.ireturn, 1) := by decide +kernel
theorem b_G_leads_0 {l : Launch} {D : va_G} {cid : Nat → ClassId} {X : CT} {Post : PT} (hX : OK l D cid m_G_leads X Post) : SS l D cid m_G_leads X 0 [o_aload 1, o_getf 2 1] (t_if (fun x => ¬ x = 0) (FR l D cid m_G_leads X 26) (FR l D cid m_G_leads X 7)) := by
  refine SS.cons (so_aload_n hX d_G_leads_0 rfl) ?_
  refine SS.cons (so_getf (C := R_P) (T := T_P) hX d_G_leads_1 in_P rfl (by decide) k_105) ?_
  exact st_if_ne hX d_G_leads_4 (by decide)
theorem b_G_leads_7 {l : Launch} {D : va_G} {cid : Nat → ClassId} {X : CT} {Post : PT} (hX : OK l D cid m_G_leads X Post) : SS l D cid m_G_leads X 7 [o_aload 0, o_aload 1, o_getf 2 2, o_callV l D cid m_G_primaryOf 3 1, o_aload 1, o_getf 2 0] (t_cmp (fun x y => ¬ x = y) (FR l D cid m_G_leads X 26) (FR l D cid m_G_leads X 22)) := by
  refine SS.cons (so_aload_n hX d_G_leads_7 rfl) ?_
  refine SS.cons (so_aload_n hX d_G_leads_8 rfl) ?_
  refine SS.cons (so_getf (C := R_P) (T := T_P) hX d_G_leads_9 in_P rfl (by decide) k_108) ?_
  refine SS.cons (so_callV (M' := m_G_primaryOf) (T := T_G) hX d_G_leads_12 rfl k_202 k_199 k_201 k_2 k_45 pf_G_primaryOf (by decide) (by decide +kernel) ⟨by decide, by decide⟩) ?_
  refine SS.cons (so_aload_n hX d_G_leads_15 rfl) ?_
  refine SS.cons (so_getf (C := R_P) (T := T_P) hX d_G_leads_16 in_P rfl (by decide) k_103) ?_
  exact st_icmp_ne hX d_G_leads_19 (by decide)
theorem b_G_leads_22 {l : Launch} {D : va_G} {cid : Nat → ClassId} {X : CT} {Post : PT} (hX : OK l D cid m_G_leads X Post) : SS l D cid m_G_leads X 22 [o_push (.int 1)] (FR l D cid m_G_leads X 27) := by
  refine SS.cons (so_iconst hX d_G_leads_22 (by decide)) ?_
  exact so_goto hX d_G_leads_23 (by decide)
theorem b_G_leads_26 {l : Launch} {D : va_G} {cid : Nat → ClassId} {X : CT} {Post : PT} (hX : OK l D cid m_G_leads X Post) : SS l D cid m_G_leads X 26 [o_push (.int 0)] (FR l D cid m_G_leads X 27) := by
  refine SS.cons (so_iconst hX d_G_leads_26 (by decide)) ?_
  exact SS.fall
theorem b_G_leads_27 {l : Launch} {D : va_G} {cid : Nat → ClassId} {X : CT} {Post : PT} (hX : OK l D cid m_G_leads X Post) : SS l D cid m_G_leads X 27 [] (t_zret Post) := by
  exact st_zret hX d_G_leads_27 rfl
abbrev m_G_answerClient : MT := (⟨"GroupLog", "answerClient", "(LGroupLog$Log;)V"⟩, prog_1_method_29_code, 2, (none : Option FieldType), { frames := 0, cells := 0, slots := 0, locals := 0 })
theorem pf_G_answerClient : plainFor m_G_answerClient.1 = true := by decide +kernel
theorem d_G_answerClient_0 : decode prog_1_method_29_code 0 = .ok (.aload_n 1, 1) := by decide +kernel
theorem d_G_answerClient_1 : decode prog_1_method_29_code 1 = .ok (.getfield 139, 3) := by decide +kernel
theorem d_G_answerClient_4 : decode prog_1_method_29_code 4 = .ok (.aload_n 0, 1) := by decide +kernel
theorem d_G_answerClient_5 : decode prog_1_method_29_code 5 = .ok (.getfield 22, 3) := by decide +kernel
theorem d_G_answerClient_8 : decode prog_1_method_29_code 8 = .ok (.aload_n 1, 1) := by decide +kernel
theorem d_G_answerClient_9 : decode prog_1_method_29_code 9 = .ok (.getfield 142, 3) := by decide +kernel
theorem d_G_answerClient_12 : decode prog_1_method_29_code 12 = .ok (.iaload, 1) := by decide +kernel
theorem d_G_answerClient_13 : decode prog_1_method_29_code 13 = .ok (.if_icmp .lt 29, 3) := by decide +kernel
theorem d_G_answerClient_16 : decode prog_1_method_29_code 16 = .ok (.aload_n 0, 1) := by decide +kernel
theorem d_G_answerClient_17 : decode prog_1_method_29_code 17 = .ok (.getfield 22, 3) := by decide +kernel
theorem d_G_answerClient_20 : decode prog_1_method_29_code 20 = .ok (.aload_n 1, 1) := by decide +kernel
theorem d_G_answerClient_21 : decode prog_1_method_29_code 21 = .ok (.getfield 142, 3) := by decide +kernel
theorem d_G_answerClient_24 : decode prog_1_method_29_code 24 = .ok (.aload_n 1, 1) := by decide +kernel
theorem d_G_answerClient_25 : decode prog_1_method_29_code 25 = .ok (.getfield 139, 3) := by decide +kernel
theorem d_G_answerClient_28 : decode prog_1_method_29_code 28 = .ok (.iastore, 1) := by decide +kernel
theorem d_G_answerClient_29 : decode prog_1_method_29_code 29 = .ok (.aload_n 0, 1) := by decide +kernel
theorem d_G_answerClient_30 : decode prog_1_method_29_code 30 = .ok (.getfield 26, 3) := by decide +kernel
theorem d_G_answerClient_33 : decode prog_1_method_29_code 33 = .ok (.aload_n 1, 1) := by decide +kernel
theorem d_G_answerClient_34 : decode prog_1_method_29_code 34 = .ok (.getfield 142, 3) := by decide +kernel
theorem d_G_answerClient_37 : decode prog_1_method_29_code 37 = .ok (.aload_n 1, 1) := by decide +kernel
theorem d_G_answerClient_38 : decode prog_1_method_29_code 38 = .ok (.getfield 145, 3) := by decide +kernel
theorem d_G_answerClient_41 : decode prog_1_method_29_code 41 = .ok (.iastore, 1) := by decide +kernel
theorem d_G_answerClient_42 : decode prog_1_method_29_code 42 = .ok (.return_, 1) := by decide +kernel
theorem b_G_answerClient_0 {l : Launch} {D : va_G} {cid : Nat → ClassId} {X : CT} {Post : PT} (hX : OK l D cid m_G_answerClient X Post) : SS l D cid m_G_answerClient X 0 [o_aload 1, o_getf 0 3, o_aload 0, o_getf 3 6, o_aload 1, o_getf 0 2, o_ald 0] (t_cmp (fun x y => x < y) (FR l D cid m_G_answerClient X 42) (FR l D cid m_G_answerClient X 16)) := by
  refine SS.cons (so_aload_n hX d_G_answerClient_0 rfl) ?_
  refine SS.cons (so_getf (C := R_L) (T := T_L) hX d_G_answerClient_1 in_L rfl (by decide) k_81) ?_
  refine SS.cons (so_aload_n hX d_G_answerClient_4 rfl) ?_
  refine SS.cons (so_getf (C := R_G) (T := T_G) hX d_G_answerClient_5 in_G rfl (by decide) k_165) ?_
  refine SS.cons (so_aload_n hX d_G_answerClient_8 rfl) ?_
  refine SS.cons (so_getf (C := R_L) (T := T_L) hX d_G_answerClient_9 in_L rfl (by decide) k_79) ?_
  refine SS.cons (so_iald hX d_G_answerClient_12) ?_
  exact st_icmp_lt hX d_G_answerClient_13 (by decide)
theorem b_G_answerClient_16 {l : Launch} {D : va_G} {cid : Nat → ClassId} {X : CT} {Post : PT} (hX : OK l D cid m_G_answerClient X Post) : SS l D cid m_G_answerClient X 16 [o_aload 0, o_getf 3 6, o_aload 1, o_getf 0 2, o_aload 1, o_getf 0 3, o_ast, o_aload 0, o_getf 3 7, o_aload 1, o_getf 0 2, o_aload 1, o_getf 0 5, o_ast] (FR l D cid m_G_answerClient X 42) := by
  refine SS.cons (so_aload_n hX d_G_answerClient_16 rfl) ?_
  refine SS.cons (so_getf (C := R_G) (T := T_G) hX d_G_answerClient_17 in_G rfl (by decide) k_165) ?_
  refine SS.cons (so_aload_n hX d_G_answerClient_20 rfl) ?_
  refine SS.cons (so_getf (C := R_L) (T := T_L) hX d_G_answerClient_21 in_L rfl (by decide) k_79) ?_
  refine SS.cons (so_aload_n hX d_G_answerClient_24 rfl) ?_
  refine SS.cons (so_getf (C := R_L) (T := T_L) hX d_G_answerClient_25 in_L rfl (by decide) k_81) ?_
  refine SS.cons (so_iast hX d_G_answerClient_28) ?_
  refine SS.cons (so_aload_n hX d_G_answerClient_29 rfl) ?_
  refine SS.cons (so_getf (C := R_G) (T := T_G) hX d_G_answerClient_30 in_G rfl (by decide) k_166) ?_
  refine SS.cons (so_aload_n hX d_G_answerClient_33 rfl) ?_
  refine SS.cons (so_getf (C := R_L) (T := T_L) hX d_G_answerClient_34 in_L rfl (by decide) k_79) ?_
  refine SS.cons (so_aload_n hX d_G_answerClient_37 rfl) ?_
  refine SS.cons (so_getf (C := R_L) (T := T_L) hX d_G_answerClient_38 in_L rfl (by decide) k_85) ?_
  refine SS.cons (so_iast hX d_G_answerClient_41) ?_
  exact SS.fall
theorem b_G_answerClient_42 {l : Launch} {D : va_G} {cid : Nat → ClassId} {X : CT} {Post : PT} (hX : OK l D cid m_G_answerClient X Post) : SS l D cid m_G_answerClient X 42 [] (t_ret Post) := by
  exact st_ret hX d_G_answerClient_42 rfl
abbrev m_G_repeatAnswer : MT := (⟨"GroupLog", "repeatAnswer", "(LGroupLog$Replica;LGroupLog$Log;)I"⟩, prog_1_method_28_code, 3, (some FieldType.int), { frames := 1, cells := 0, slots := 0, locals := 21 })
theorem pf_G_repeatAnswer : plainFor m_G_repeatAnswer.1 = true := by decide +kernel
theorem d_G_repeatAnswer_0 : decode prog_1_method_28_code 0 = .ok (.aload_n 2, 1) := by decide +kernel
theorem d_G_repeatAnswer_1 : decode prog_1_method_28_code 1 = .ok (.getfield 73, 3) := by decide +kernel
theorem d_G_repeatAnswer_4 : decode prog_1_method_28_code 4 = .ok (.aload_n 1, 1) := by decide +kernel
theorem d_G_repeatAnswer_5 : decode prog_1_method_28_code 5 = .ok (.getfield 125, 3) := by decide +kernel
theorem d_G_repeatAnswer_8 : decode prog_1_method_28_code 8 = .ok (.if_icmp .le 5, 3) := by decide +kernel
theorem d_G_repeatAnswer_11 : decode prog_1_method_28_code 11 = .ok (.iconst 2, 1) := by decide +kernel
theorem d_G_repeatAnswer_12 : decode prog_1_method_28_code 12 = .ok (.ireturn, 1) := by decide +kernel
theorem d_G_repeatAnswer_13 : decode prog_1_method_28_code 13 = .ok (.aload_n 0, 1) := by decide +kernel
theorem d_G_repeatAnswer_14 : decode prog_1_method_28_code 14 = .ok (.aload_n 2, 1) := by decide +kernel
theorem d_G_repeatAnswer_15 : decode prog_1_method_28_code 15 = .ok (.invokevirtual 164, 3) := by decide +kernel
theorem d_G_repeatAnswer_18 : decode prog_1_method_28_code 18 = .ok (.iconst 1, 1) := by decide +kernel
theorem d_G_repeatAnswer_19 : decode prog_1_method_28_code 19 = .ok (.ireturn, 1) := by decide +kernel
theorem b_G_repeatAnswer_0 {l : Launch} {D : va_G} {cid : Nat → ClassId} {X : CT} {Post : PT} (hX : OK l D cid m_G_repeatAnswer X Post) : SS l D cid m_G_repeatAnswer X 0 [o_aload 2, o_getf 0 1, o_aload 1, o_getf 2 5] (t_cmp (fun x y => x ≤ y) (FR l D cid m_G_repeatAnswer X 13) (FR l D cid m_G_repeatAnswer X 11)) := by
  refine SS.cons (so_aload_n hX d_G_repeatAnswer_0 rfl) ?_
  refine SS.cons (so_getf (C := R_L) (T := T_L) hX d_G_repeatAnswer_1 in_L rfl (by decide) k_76) ?_
  refine SS.cons (so_aload_n hX d_G_repeatAnswer_4 rfl) ?_
  refine SS.cons (so_getf (C := R_P) (T := T_P) hX d_G_repeatAnswer_5 in_P rfl (by decide) k_116) ?_
  exact st_icmp_le hX d_G_repeatAnswer_8 (by decide)
theorem b_G_repeatAnswer_11 {l : Launch} {D : va_G} {cid : Nat → ClassId} {X : CT} {Post : PT} (hX : OK l D cid m_G_repeatAnswer X Post) : SS l D cid m_G_repeatAnswer X 11 [o_push (.int 2)] (t_iret Post) := by
  refine SS.cons (so_iconst hX d_G_repeatAnswer_11 (by decide)) ?_
  exact st_iret hX d_G_repeatAnswer_12 rfl
theorem b_G_repeatAnswer_13 {l : Launch} {D : va_G} {cid : Nat → ClassId} {X : CT} {Post : PT} (hX : OK l D cid m_G_repeatAnswer X Post) : SS l D cid m_G_repeatAnswer X 13 [o_aload 0, o_aload 2, o_callV l D cid m_G_answerClient 3 1, o_push (.int 1)] (t_iret Post) := by
  refine SS.cons (so_aload_n hX d_G_repeatAnswer_13 rfl) ?_
  refine SS.cons (so_aload_n hX d_G_repeatAnswer_14 rfl) ?_
  refine SS.cons (so_callV (M' := m_G_answerClient) (T := T_G) hX d_G_repeatAnswer_15 rfl k_224 k_221 k_223 k_4 k_45 pf_G_answerClient (by decide) (by decide +kernel) ⟨by decide, by decide⟩) ?_
  refine SS.cons (so_iconst hX d_G_repeatAnswer_18 (by decide)) ?_
  exact st_iret hX d_G_repeatAnswer_19 rfl
abbrev m_G_send : MT := (⟨"GroupLog", "send", "(LGroupLog$Replica;II)V"⟩, prog_1_method_31_code, 4, (none : Option FieldType), { frames := 2, cells := 1, slots := 8, locals := 43 })
theorem pf_G_send : plainFor m_G_send.1 = true := by decide +kernel
theorem d_G_send_0 : decode prog_1_method_31_code 0 = .ok (.aload_n 0, 1) := by decide +kernel
theorem d_G_send_1 : decode prog_1_method_31_code 1 = .ok (.getfield 11, 3) := by decide +kernel
theorem d_G_send_4 : decode prog_1_method_31_code 4 = .ok (.aload_n 0, 1) := by decide +kernel
theorem d_G_send_5 : decode prog_1_method_31_code 5 = .ok (.getfield 15, 3) := by decide +kernel
theorem d_G_send_8 : decode prog_1_method_31_code 8 = .ok (.bipush 64, 2) := by decide +kernel
theorem d_G_send_10 : decode prog_1_method_31_code 10 = .ok (.invokestatic 158, 3) := by decide +kernel
theorem d_G_send_13 : decode prog_1_method_31_code 13 = .ok (.new 9, 3) := by decide +kernel
theorem d_G_send_16 : decode prog_1_method_31_code 16 = .ok (.dup, 1) := by decide +kernel
theorem d_G_send_17 : decode prog_1_method_31_code 17 = .ok (.aload_n 1, 1) := by decide +kernel
theorem d_G_send_18 : decode prog_1_method_31_code 18 = .ok (.iload_n 2, 1) := by decide +kernel
theorem d_G_send_19 : decode prog_1_method_31_code 19 = .ok (.iload_n 3, 1) := by decide +kernel
theorem d_G_send_20 : decode prog_1_method_31_code 20 = .ok (.invokespecial 168, 3) := by decide +kernel
theorem d_G_send_23 : decode prog_1_method_31_code 23 = .ok (.aastore, 1) := by decide +kernel
theorem d_G_send_24 : decode prog_1_method_31_code 24 = .ok (.aload_n 0, 1) := by decide +kernel
theorem d_G_send_25 : decode prog_1_method_31_code 25 = .ok (.dup, 1) := by decide +kernel
theorem d_G_send_26 : decode prog_1_method_31_code 26 = .ok (.getfield 15, 3) := by decide +kernel
theorem d_G_send_29 : decode prog_1_method_31_code 29 = .ok (.iconst 1, 1) := by decide +kernel
theorem d_G_send_30 : decode prog_1_method_31_code 30 = .ok (.iadd, 1) := by decide +kernel
theorem d_G_send_31 : decode prog_1_method_31_code 31 = .ok (.putfield 15, 3) := by decide +kernel
theorem d_G_send_34 : decode prog_1_method_31_code 34 = .ok (.return_, 1) := by decide +kernel
theorem b_G_send_0 {l : Launch} {D : va_G} {cid : Nat → ClassId} {X : CT} {Post : PT} (hX : OK l D cid m_G_send X Post) : SS l D cid m_G_send X 0 [o_aload 0, o_getf 3 3, o_aload 0, o_getf 3 4, o_push (.int 64), o_callS l D cid m_J_floorMod 2, o_new 1 8 df_E, o_dup, o_aload 1, o_iload 2, o_iload 3, o_callI l D cid m_E_init 3, o_astq 2 1, o_aload 0, o_dup, o_getf 3 4, o_push (.int 1), o_bin (fun x y => x + y), o_put okI 3 4] (t_ret Post) := by
  refine SS.cons (so_aload_n hX d_G_send_0 rfl) ?_
  refine SS.cons (so_getf (C := R_G) (T := T_G) hX d_G_send_1 in_G rfl (by decide) k_162) ?_
  refine SS.cons (so_aload_n hX d_G_send_4 rfl) ?_
  refine SS.cons (so_getf (C := R_G) (T := T_G) hX d_G_send_5 in_G rfl (by decide) k_163) ?_
  refine SS.cons (so_bipush hX d_G_send_8 (by decide)) ?_
  refine SS.cons (so_callS (M' := m_J_floorMod) hX d_G_send_10 k_205 k_203 k_204 k_49 pf_J_floorMod (by decide) (by decide +kernel) ⟨by decide, by decide⟩) ?_
  refine SS.cons (so_new (C := R_E) (T := T_E) hX d_G_send_13 in_E ty_E k_59 k_237 k_50 rfl dv_E) ?_
  refine SS.cons (so_dup hX d_G_send_16) ?_
  refine SS.cons (so_aload_n hX d_G_send_17 rfl) ?_
  refine SS.cons (so_iload_n hX d_G_send_18 rfl) ?_
  refine SS.cons (so_iload_n hX d_G_send_19 rfl) ?_
  refine SS.cons (so_callI (M' := m_E_init) hX d_G_send_20 k_240 rfl k_238 k_239 k_50 rfl pf_E_init (by decide) (by decide +kernel) ⟨by decide, by decide⟩) ?_
  refine SS.cons (so_astq (r0 := (R_E, T_E, 8)) hX d_G_send_23 rfl rfl) ?_
  refine SS.cons (so_aload_n hX d_G_send_24 rfl) ?_
  refine SS.cons (so_dup hX d_G_send_25) ?_
  refine SS.cons (so_getf (C := R_G) (T := T_G) hX d_G_send_26 in_G rfl (by decide) k_163) ?_
  refine SS.cons (so_iconst hX d_G_send_29 (by decide)) ?_
  refine SS.cons (so_iadd hX d_G_send_30) ?_
  refine SS.cons (so_put (C := R_G) (T := T_G) ok_I hX d_G_send_31 in_G ty_G nm_G rfl (by decide) k_163 rfl rfl) ?_
  exact st_ret hX d_G_send_34 rfl
abbrev m_G_sendToAll : MT := (⟨"GroupLog", "sendToAll", "(LGroupLog$Replica;I)V"⟩, prog_1_method_32_code, 4, (none : Option FieldType), { frames := 3, cells := 5, slots := 40, locals := 66 })
theorem pf_G_sendToAll : plainFor m_G_sendToAll.1 = true := by decide +kernel
theorem d_G_sendToAll_0 : decode prog_1_method_32_code 0 = .ok (.iconst 0, 1) := by decide +kernel
theorem d_G_sendToAll_1 : decode prog_1_method_32_code 1 = .ok (.istore_n 3, 1) := by decide +kernel
theorem d_G_sendToAll_2 : decode prog_1_method_32_code 2 = .ok (.iload_n 3, 1) := by decide +kernel
theorem d_G_sendToAll_3 : decode prog_1_method_32_code 3 = .ok (.aload_n 0, 1) := by decide +kernel
theorem d_G_sendToAll_4 : decode prog_1_method_32_code 4 = .ok (.getfield 29, 3) := by decide +kernel
theorem d_G_sendToAll_7 : decode prog_1_method_32_code 7 = .ok (.if_icmp .ge 24, 3) := by decide +kernel
theorem d_G_sendToAll_10 : decode prog_1_method_32_code 10 = .ok (.iload_n 3, 1) := by decide +kernel
theorem d_G_sendToAll_11 : decode prog_1_method_32_code 11 = .ok (.aload_n 1, 1) := by decide +kernel
theorem d_G_sendToAll_12 : decode prog_1_method_32_code 12 = .ok (.getfield 122, 3) := by decide +kernel
theorem d_G_sendToAll_15 : decode prog_1_method_32_code 15 = .ok (.if_icmp .eq 10, 3) := by decide +kernel
theorem d_G_sendToAll_18 : decode prog_1_method_32_code 18 = .ok (.aload_n 0, 1) := by decide +kernel
theorem d_G_sendToAll_19 : decode prog_1_method_32_code 19 = .ok (.aload_n 1, 1) := by decide +kernel
theorem d_G_sendToAll_20 : decode prog_1_method_32_code 20 = .ok (.iload_n 2, 1) := by decide +kernel
theorem d_G_sendToAll_21 : decode prog_1_method_32_code 21 = .ok (.iload_n 3, 1) := by decide +kernel
theorem d_G_sendToAll_22 : decode prog_1_method_32_code 22 = .ok (.invokevirtual 171, 3) := by decide +kernel
theorem d_G_sendToAll_25 : decode prog_1_method_32_code 25 = .ok (.iinc 3 1, 3) := by decide +kernel
theorem d_G_sendToAll_28 : decode prog_1_method_32_code 28 = .ok (.goto (-26), 3) := by decide +kernel
theorem d_G_sendToAll_31 : decode prog_1_method_32_code 31 = .ok (.return_, 1) := by decide +kernel
theorem b_G_sendToAll_0 {l : Launch} {D : va_G} {cid : Nat → ClassId} {X : CT} {Post : PT} (hX : OK l D cid m_G_sendToAll X Post) : SS l D cid m_G_sendToAll X 0 [o_push (.int 0), o_istore 3] (FR l D cid m_G_sendToAll X 2) := by
  refine SS.cons (so_iconst hX d_G_sendToAll_0 (by decide)) ?_
  refine SS.cons (so_istore_n hX d_G_sendToAll_1 rfl (by decide)) ?_
  exact SS.fall
theorem b_G_sendToAll_2 {l : Launch} {D : va_G} {cid : Nat → ClassId} {X : CT} {Post : PT} (hX : OK l D cid m_G_sendToAll X Post) : SS l D cid m_G_sendToAll X 2 [o_iload 3, o_aload 0, o_getf 3 0] (t_cmp (fun x y => y ≤ x) (FR l D cid m_G_sendToAll X 31) (FR l D cid m_G_sendToAll X 10)) := by
  refine SS.cons (so_iload_n hX d_G_sendToAll_2 rfl) ?_
  refine SS.cons (so_aload_n hX d_G_sendToAll_3 rfl) ?_
  refine SS.cons (so_getf (C := R_G) (T := T_G) hX d_G_sendToAll_4 in_G rfl (by decide) k_159) ?_
  exact st_icmp_ge hX d_G_sendToAll_7 (by decide)
theorem b_G_sendToAll_10 {l : Launch} {D : va_G} {cid : Nat → ClassId} {X : CT} {Post : PT} (hX : OK l D cid m_G_sendToAll X Post) : SS l D cid m_G_sendToAll X 10 [o_iload 3, o_aload 1, o_getf 2 0] (t_cmp (fun x y => x = y) (FR l D cid m_G_sendToAll X 25) (FR l D cid m_G_sendToAll X 18)) := by
  refine SS.cons (so_iload_n hX d_G_sendToAll_10 rfl) ?_
  refine SS.cons (so_aload_n hX d_G_sendToAll_11 rfl) ?_
  refine SS.cons (so_getf (C := R_P) (T := T_P) hX d_G_sendToAll_12 in_P rfl (by decide) k_103) ?_
  exact st_icmp_eq hX d_G_sendToAll_15 (by decide)
theorem b_G_sendToAll_18 {l : Launch} {D : va_G} {cid : Nat → ClassId} {X : CT} {Post : PT} (hX : OK l D cid m_G_sendToAll X Post) : SS l D cid m_G_sendToAll X 18 [o_aload 0, o_aload 1, o_iload 2, o_iload 3, o_callV l D cid m_G_send 3 3] (FR l D cid m_G_sendToAll X 25) := by
  refine SS.cons (so_aload_n hX d_G_sendToAll_18 rfl) ?_
  refine SS.cons (so_aload_n hX d_G_sendToAll_19 rfl) ?_
  refine SS.cons (so_iload_n hX d_G_sendToAll_20 rfl) ?_
  refine SS.cons (so_iload_n hX d_G_sendToAll_21 rfl) ?_
  refine SS.cons (so_callV (M' := m_G_send) (T := T_G) hX d_G_sendToAll_22 rfl k_236 k_233 k_235 k_6 k_45 pf_G_send (by decide) (by decide +kernel) ⟨by decide, by decide⟩) ?_
  exact SS.fall
theorem b_G_sendToAll_25 {l : Launch} {D : va_G} {cid : Nat → ClassId} {X : CT} {Post : PT} (hX : OK l D cid m_G_sendToAll X Post) : SS l D cid m_G_sendToAll X 25 [o_iinc 3 1] (FR l D cid m_G_sendToAll X 2) := by
  refine SS.cons (so_iinc hX d_G_sendToAll_25 (by decide) (by decide)) ?_
  exact so_goto hX d_G_sendToAll_28 (by decide)
theorem b_G_sendToAll_31 {l : Launch} {D : va_G} {cid : Nat → ClassId} {X : CT} {Post : PT} (hX : OK l D cid m_G_sendToAll X Post) : SS l D cid m_G_sendToAll X 31 [] (t_ret Post) := by
  exact st_ret hX d_G_sendToAll_31 rfl
abbrev m_G_request : MT := (⟨"GroupLog", "request", "(IIII)I"⟩, prog_1_method_2_code, 7, (some FieldType.int), { frames := 4, cells := 6, slots := 46, locals := 89 })
theorem pf_G_request : plainFor m_G_request.1 = true := by decide +kernel
theorem d_G_request_0 : decode prog_1_method_2_code 0 = .ok (.aload_n 0, 1) := by decide +kernel
theorem d_G_request_1 : decode prog_1_method_2_code 1 = .ok (.iload_n 1, 1) := by decide +kernel
theorem d_G_request_2 : decode prog_1_method_2_code 2 = .ok (.invokevirtual 44, 3) := by decide +kernel
theorem d_G_request_5 : decode prog_1_method_2_code 5 = .ok (.ifCond .eq 15, 3) := by decide +kernel
theorem d_G_request_8 : decode prog_1_method_2_code 8 = .ok (.iload_n 2, 1) := by decide +kernel
theorem d_G_request_9 : decode prog_1_method_2_code 9 = .ok (.invokestatic 48, 3) := by decide +kernel
theorem d_G_request_12 : decode prog_1_method_2_code 12 = .ok (.ifCond .eq 8, 3) := by decide +kernel
theorem d_G_request_15 : decode prog_1_method_2_code 15 = .ok (.iload_n 3, 1) := by decide +kernel
theorem d_G_request_16 : decode prog_1_method_2_code 16 = .ok (.iconst 1, 1) := by decide +kernel
theorem d_G_request_17 : decode prog_1_method_2_code 17 = .ok (.if_icmp .ge 5, 3) := by decide +kernel
theorem d_G_request_20 : decode prog_1_method_2_code 20 = .ok (.iconst (-1), 1) := by decide +kernel
theorem d_G_request_21 : decode prog_1_method_2_code 21 = .ok (.ireturn, 1) := by decide +kernel
theorem d_G_request_22 : decode prog_1_method_2_code 22 = .ok (.aload_n 0, 1) := by decide +kernel
theorem d_G_request_23 : decode prog_1_method_2_code 23 = .ok (.getfield 37, 3) := by decide +kernel
theorem d_G_request_26 : decode prog_1_method_2_code 26 = .ok (.iload_n 1, 1) := by decide +kernel
theorem d_G_request_27 : decode prog_1_method_2_code 27 = .ok (.aaload, 1) := by decide +kernel
theorem d_G_request_28 : decode prog_1_method_2_code 28 = .ok (.astore 5, 2) := by decide +kernel
theorem d_G_request_30 : decode prog_1_method_2_code 30 = .ok (.aload_n 0, 1) := by decide +kernel
theorem d_G_request_31 : decode prog_1_method_2_code 31 = .ok (.aload 5, 2) := by decide +kernel
theorem d_G_request_33 : decode prog_1_method_2_code 33 = .ok (.invokevirtual 51, 3) := by decide +kernel
theorem d_G_request_36 : decode prog_1_method_2_code 36 = .ok (.ifCond .ne 6, 3) := by decide +kernel
theorem d_G_request_39 : decode prog_1_method_2_code 39 = .ok (.bipush (-2), 2) := by decide +kernel
theorem d_G_request_41 : decode prog_1_method_2_code 41 = .ok (.ireturn, 1) := by decide +kernel
theorem d_G_request_42 : decode prog_1_method_2_code 42 = .ok (.aload 5, 2) := by decide +kernel
theorem d_G_request_44 : decode prog_1_method_2_code 44 = .ok (.getfield 55, 3) := by decide +kernel
theorem d_G_request_47 : decode prog_1_method_2_code 47 = .ok (.iload_n 2, 1) := by decide +kernel
theorem d_G_request_48 : decode prog_1_method_2_code 48 = .ok (.invokevirtual 59, 3) := by decide +kernel
theorem d_G_request_51 : decode prog_1_method_2_code 51 = .ok (.iload_n 3, 1) := by decide +kernel
theorem d_G_request_52 : decode prog_1_method_2_code 52 = .ok (.if_icmp .le 6, 3) := by decide +kernel
theorem d_G_request_55 : decode prog_1_method_2_code 55 = .ok (.bipush (-3), 2) := by decide +kernel
theorem d_G_request_57 : decode prog_1_method_2_code 57 = .ok (.ireturn, 1) := by decide +kernel
theorem d_G_request_58 : decode prog_1_method_2_code 58 = .ok (.aload 5, 2) := by decide +kernel
theorem d_G_request_60 : decode prog_1_method_2_code 60 = .ok (.getfield 55, 3) := by decide +kernel
theorem d_G_request_63 : decode prog_1_method_2_code 63 = .ok (.iload_n 2, 1) := by decide +kernel
theorem d_G_request_64 : decode prog_1_method_2_code 64 = .ok (.iload_n 3, 1) := by decide +kernel
theorem d_G_request_65 : decode prog_1_method_2_code 65 = .ok (.invokevirtual 65, 3) := by decide +kernel
theorem d_G_request_68 : decode prog_1_method_2_code 68 = .ok (.astore 6, 2) := by decide +kernel
theorem d_G_request_70 : decode prog_1_method_2_code 70 = .ok (.aload 6, 2) := by decide +kernel
theorem d_G_request_72 : decode prog_1_method_2_code 72 = .ok (.ifnull 12, 3) := by decide +kernel
theorem d_G_request_75 : decode prog_1_method_2_code 75 = .ok (.aload_n 0, 1) := by decide +kernel
theorem d_G_request_76 : decode prog_1_method_2_code 76 = .ok (.aload 5, 2) := by decide +kernel
theorem d_G_request_78 : decode prog_1_method_2_code 78 = .ok (.aload 6, 2) := by decide +kernel
theorem d_G_request_80 : decode prog_1_method_2_code 80 = .ok (.invokevirtual 69, 3) := by decide +kernel
theorem d_G_request_83 : decode prog_1_method_2_code 83 = .ok (.ireturn, 1) := by decide +kernel
theorem d_G_request_84 : decode prog_1_method_2_code 84 = .ok (.aload 5, 2) := by decide +kernel
theorem d_G_request_86 : decode prog_1_method_2_code 86 = .ok (.getfield 55, 3) := by decide +kernel
theorem d_G_request_89 : decode prog_1_method_2_code 89 = .ok (.getfield 73, 3) := by decide +kernel
theorem d_G_request_92 : decode prog_1_method_2_code 92 = .ok (.bipush 24, 2) := by decide +kernel
theorem d_G_request_94 : decode prog_1_method_2_code 94 = .ok (.if_icmp .lt 6, 3) := by decide +kernel
theorem d_G_request_97 : decode prog_1_method_2_code 97 = .ok (.bipush (-4), 2) := by decide +kernel
theorem d_G_request_99 : decode prog_1_method_2_code 99 = .ok (.ireturn, 1) := by decide +kernel
theorem d_G_request_100 : decode prog_1_method_2_code 100 = .ok (.aload 5, 2) := by decide +kernel
theorem d_G_request_102 : decode prog_1_method_2_code 102 = .ok (.new 60, 3) := by decide +kernel
theorem d_G_request_105 : decode prog_1_method_2_code 105 = .ok (.dup, 1) := by decide +kernel
theorem d_G_request_106 : decode prog_1_method_2_code 106 = .ok (.aload 5, 2) := by decide +kernel
theorem d_G_request_108 : decode prog_1_method_2_code 108 = .ok (.getfield 55, 3) := by decide +kernel
theorem d_G_request_111 : decode prog_1_method_2_code 111 = .ok (.iload_n 2, 1) := by decide +kernel
theorem d_G_request_112 : decode prog_1_method_2_code 112 = .ok (.iload_n 3, 1) := by decide +kernel
theorem d_G_request_113 : decode prog_1_method_2_code 113 = .ok (.iload 4, 2) := by decide +kernel
theorem d_G_request_115 : decode prog_1_method_2_code 115 = .ok (.invokespecial 76, 3) := by decide +kernel
theorem d_G_request_118 : decode prog_1_method_2_code 118 = .ok (.putfield 55, 3) := by decide +kernel
theorem d_G_request_121 : decode prog_1_method_2_code 121 = .ok (.aload_n 0, 1) := by decide +kernel
theorem d_G_request_122 : decode prog_1_method_2_code 122 = .ok (.aload 5, 2) := by decide +kernel
theorem d_G_request_124 : decode prog_1_method_2_code 124 = .ok (.iconst 1, 1) := by decide +kernel
theorem d_G_request_125 : decode prog_1_method_2_code 125 = .ok (.invokevirtual 79, 3) := by decide +kernel
theorem d_G_request_128 : decode prog_1_method_2_code 128 = .ok (.iconst 0, 1) := by decide +kernel
theorem d_G_request_129 : decode prog_1_method_2_code 129 = .ok (.ireturn, 1) := by decide +kernel
theorem b_G_request_0 {l : Launch} {D : va_G} {cid : Nat → ClassId} {X : CT} {Post : PT} (hX : OK l D cid m_G_request X Post) : SS l D cid m_G_request X 0 [o_aload 0, o_iload 1, o_callV l D cid m_G_isReplica 3 1] (t_if (fun x => x = 0) (FR l D cid m_G_request X 20) (FR l D cid m_G_request X 8)) := by
  refine SS.cons (so_aload_n hX d_G_request_0 rfl) ?_
  refine SS.cons (so_iload_n hX d_G_request_1 rfl) ?_
  refine SS.cons (so_callV (M' := m_G_isReplica) (T := T_G) hX d_G_request_2 rfl k_191 k_188 k_190 k_0 k_45 pf_G_isReplica (by decide) (by decide +kernel) ⟨by decide, by decide⟩) ?_
  exact st_if_eq hX d_G_request_5 (by decide)
theorem b_G_request_8 {l : Launch} {D : va_G} {cid : Nat → ClassId} {X : CT} {Post : PT} (hX : OK l D cid m_G_request X Post) : SS l D cid m_G_request X 8 [o_iload 2, o_callS l D cid m_G_isClient 1] (t_if (fun x => x = 0) (FR l D cid m_G_request X 20) (FR l D cid m_G_request X 15)) := by
  refine SS.cons (so_iload_n hX d_G_request_8 rfl) ?_
  refine SS.cons (so_callS (M' := m_G_isClient) hX d_G_request_9 k_194 k_192 k_193 k_45 pf_G_isClient (by decide) (by decide +kernel) ⟨by decide, by decide⟩) ?_
  exact st_if_eq hX d_G_request_12 (by decide)
theorem b_G_request_15 {l : Launch} {D : va_G} {cid : Nat → ClassId} {X : CT} {Post : PT} (hX : OK l D cid m_G_request X Post) : SS l D cid m_G_request X 15 [o_iload 3, o_push (.int 1)] (t_cmp (fun x y => y ≤ x) (FR l D cid m_G_request X 22) (FR l D cid m_G_request X 20)) := by
  refine SS.cons (so_iload_n hX d_G_request_15 rfl) ?_
  refine SS.cons (so_iconst hX d_G_request_16 (by decide)) ?_
  exact st_icmp_ge hX d_G_request_17 (by decide)
theorem b_G_request_20 {l : Launch} {D : va_G} {cid : Nat → ClassId} {X : CT} {Post : PT} (hX : OK l D cid m_G_request X Post) : SS l D cid m_G_request X 20 [o_push (.int (-1))] (t_iret Post) := by
  refine SS.cons (so_iconst hX d_G_request_20 (by decide)) ?_
  exact st_iret hX d_G_request_21 rfl
theorem b_G_request_22 {l : Launch} {D : va_G} {cid : Nat → ClassId} {X : CT} {Post : PT} (hX : OK l D cid m_G_request X Post) : SS l D cid m_G_request X 22 [o_aload 0, o_getf 3 2, o_iload 1, o_aldq 3, o_astore 5, o_aload 0, o_aload 5, o_callV l D cid m_G_leads 3 1] (t_if (fun x => ¬ x = 0) (FR l D cid m_G_request X 42) (FR l D cid m_G_request X 39)) := by
  refine SS.cons (so_aload_n hX d_G_request_22 rfl) ?_
  refine SS.cons (so_getf (C := R_G) (T := T_G) hX d_G_request_23 in_G rfl (by decide) k_161) ?_
  refine SS.cons (so_iload_n hX d_G_request_26 rfl) ?_
  refine SS.cons (so_aldq hX d_G_request_27 rfl) ?_
  refine SS.cons (so_astore hX d_G_request_28 (by decide)) ?_
  refine SS.cons (so_aload_n hX d_G_request_30 rfl) ?_
  refine SS.cons (so_aload hX d_G_request_31) ?_
  refine SS.cons (so_callV (M' := m_G_leads) (T := T_G) hX d_G_request_33 rfl k_198 k_195 k_197 k_1 k_45 pf_G_leads (by decide) (by decide +kernel) ⟨by decide, by decide⟩) ?_
  exact st_if_ne hX d_G_request_36 (by decide)
theorem b_G_request_39 {l : Launch} {D : va_G} {cid : Nat → ClassId} {X : CT} {Post : PT} (hX : OK l D cid m_G_request X Post) : SS l D cid m_G_request X 39 [o_push (.int (-2))] (t_iret Post) := by
  refine SS.cons (so_bipush hX d_G_request_39 (by decide)) ?_
  exact st_iret hX d_G_request_41 rfl
theorem b_G_request_42 {l : Launch} {D : va_G} {cid : Nat → ClassId} {X : CT} {Post : PT} (hX : OK l D cid m_G_request X Post) : SS l D cid m_G_request X 42 [o_aload 5, o_getf 2 4, o_iload 2, o_callV l D cid m_L_greatestNumber 0 1, o_iload 3] (t_cmp (fun x y => x ≤ y) (FR l D cid m_G_request X 58) (FR l D cid m_G_request X 55)) := by
  refine SS.cons (so_aload hX d_G_request_42) ?_
  refine SS.cons (so_getf (C := R_P) (T := T_P) hX d_G_request_44 in_P rfl (by decide) k_113) ?_
  refine SS.cons (so_iload_n hX d_G_request_47 rfl) ?_
  refine SS.cons (so_callV (M' := m_L_greatestNumber) (T := T_L) hX d_G_request_48 rfl k_209 k_206 k_207 k_208 k_47 pf_L_greatestNumber (by decide) (by decide +kernel) ⟨by decide, by decide⟩) ?_
  refine SS.cons (so_iload_n hX d_G_request_51 rfl) ?_
  exact st_icmp_le hX d_G_request_52 (by decide)
theorem b_G_request_55 {l : Launch} {D : va_G} {cid : Nat → ClassId} {X : CT} {Post : PT} (hX : OK l D cid m_G_request X Post) : SS l D cid m_G_request X 55 [o_push (.int (-3))] (t_iret Post) := by
  refine SS.cons (so_bipush hX d_G_request_55 (by decide)) ?_
  exact st_iret hX d_G_request_57 rfl
theorem b_G_request_58 {l : Launch} {D : va_G} {cid : Nat → ClassId} {X : CT} {Post : PT} (hX : OK l D cid m_G_request X Post) : SS l D cid m_G_request X 58 [o_aload 5, o_getf 2 4, o_iload 2, o_iload 3, o_callV l D cid m_L_find 0 2, o_astore 6, o_aload 6] (t_null (FR l D cid m_G_request X 84) (FR l D cid m_G_request X 75)) := by
  refine SS.cons (so_aload hX d_G_request_58) ?_
  refine SS.cons (so_getf (C := R_P) (T := T_P) hX d_G_request_60 in_P rfl (by decide) k_113) ?_
  refine SS.cons (so_iload_n hX d_G_request_63 rfl) ?_
  refine SS.cons (so_iload_n hX d_G_request_64 rfl) ?_
  refine SS.cons (so_callV (M' := m_L_find) (T := T_L) hX d_G_request_65 rfl k_216 k_213 k_214 k_215 k_47 pf_L_find (by decide) (by decide +kernel) ⟨by decide, by decide⟩) ?_
  refine SS.cons (so_astore hX d_G_request_68 (by decide)) ?_
  refine SS.cons (so_aload hX d_G_request_70) ?_
  exact st_ifnull hX d_G_request_72 (by decide)
theorem b_G_request_75 {l : Launch} {D : va_G} {cid : Nat → ClassId} {X : CT} {Post : PT} (hX : OK l D cid m_G_request X Post) : SS l D cid m_G_request X 75 [o_aload 0, o_aload 5, o_aload 6, o_callV l D cid m_G_repeatAnswer 3 2] (t_iret Post) := by
  refine SS.cons (so_aload_n hX d_G_request_75 rfl) ?_
  refine SS.cons (so_aload hX d_G_request_76) ?_
  refine SS.cons (so_aload hX d_G_request_78) ?_
  refine SS.cons (so_callV (M' := m_G_repeatAnswer) (T := T_G) hX d_G_request_80 rfl k_220 k_217 k_219 k_3 k_45 pf_G_repeatAnswer (by decide) (by decide +kernel) ⟨by decide, by decide⟩) ?_
  exact st_iret hX d_G_request_83 rfl
theorem b_G_request_84 {l : Launch} {D : va_G} {cid : Nat → ClassId} {X : CT} {Post : PT} (hX : OK l D cid m_G_request X Post) : SS l D cid m_G_request X 84 [o_aload 5, o_getf 2 4, o_getf 0 1, o_push (.int 24)] (t_cmp (fun x y => x < y) (FR l D cid m_G_request X 100) (FR l D cid m_G_request X 97)) := by
  refine SS.cons (so_aload hX d_G_request_84) ?_
  refine SS.cons (so_getf (C := R_P) (T := T_P) hX d_G_request_86 in_P rfl (by decide) k_113) ?_
  refine SS.cons (so_getf (C := R_L) (T := T_L) hX d_G_request_89 in_L rfl (by decide) k_76) ?_
  refine SS.cons (so_bipush hX d_G_request_92 (by decide)) ?_
  exact st_icmp_lt hX d_G_request_94 (by decide)
theorem b_G_request_97 {l : Launch} {D : va_G} {cid : Nat → ClassId} {X : CT} {Post : PT} (hX : OK l D cid m_G_request X Post) : SS l D cid m_G_request X 97 [o_push (.int (-4))] (t_iret Post) := by
  refine SS.cons (so_bipush hX d_G_request_97 (by decide)) ?_
  exact st_iret hX d_G_request_99 rfl
theorem b_G_request_100 {l : Launch} {D : va_G} {cid : Nat → ClassId} {X : CT} {Post : PT} (hX : OK l D cid m_G_request X Post) : SS l D cid m_G_request X 100 [o_aload 5, o_new 0 6 df_L, o_dup, o_aload 5, o_getf 2 4, o_iload 2, o_iload 3, o_iload 4, o_callI l D cid m_L_init2 4, o_put okR 2 4, o_aload 0, o_aload 5, o_push (.int 1), o_callV l D cid m_G_sendToAll 3 2, o_push (.int 0)] (t_iret Post) := by
  refine SS.cons (so_aload hX d_G_request_100) ?_
  refine SS.cons (so_new (C := R_L) (T := T_L) hX d_G_request_102 in_L ty_L k_225 k_69 k_47 rfl dv_L) ?_
  refine SS.cons (so_dup hX d_G_request_105) ?_
  refine SS.cons (so_aload hX d_G_request_106) ?_
  refine SS.cons (so_getf (C := R_P) (T := T_P) hX d_G_request_108 in_P rfl (by decide) k_113) ?_
  refine SS.cons (so_iload_n hX d_G_request_111 rfl) ?_
  refine SS.cons (so_iload_n hX d_G_request_112 rfl) ?_
  refine SS.cons (so_iload hX d_G_request_113) ?_
  refine SS.cons (so_callI (M' := m_L_init2) hX d_G_request_115 k_228 rfl k_226 k_227 k_47 rfl pf_L_init2 (by decide) (by decide +kernel) ⟨by decide, by decide⟩) ?_
  refine SS.cons (so_put (C := R_P) (T := T_P) (ok_O _) hX d_G_request_118 in_P ty_P nm_P rfl (by decide) k_113 rfl rfl) ?_
  refine SS.cons (so_aload_n hX d_G_request_121 rfl) ?_
  refine SS.cons (so_aload hX d_G_request_122) ?_
  refine SS.cons (so_iconst hX d_G_request_124 (by decide)) ?_
  refine SS.cons (so_callV (M' := m_G_sendToAll) (T := T_G) hX d_G_request_125 rfl k_232 k_229 k_231 k_5 k_45 pf_G_sendToAll (by decide) (by decide +kernel) ⟨by decide, by decide⟩) ?_
  refine SS.cons (so_iconst hX d_G_request_128 (by decide)) ?_
  exact st_iret hX d_G_request_129 rfl
abbrev m_G_findMessage : MT := (⟨"GroupLog", "findMessage", "(I)LGroupLog$Message;"⟩, prog_1_method_30_code, 3, (some (FieldType.object "GroupLog$Message")), { frames := 0, cells := 0, slots := 0, locals := 0 })
theorem pf_G_findMessage : plainFor m_G_findMessage.1 = true := by decide +kernel
theorem d_G_findMessage_0 : decode prog_1_method_30_code 0 = .ok (.iload_n 1, 1) := by decide +kernel
theorem d_G_findMessage_1 : decode prog_1_method_30_code 1 = .ok (.ifCond .lt 26, 3) := by decide +kernel
theorem d_G_findMessage_4 : decode prog_1_method_30_code 4 = .ok (.iload_n 1, 1) := by decide +kernel
theorem d_G_findMessage_5 : decode prog_1_method_30_code 5 = .ok (.aload_n 0, 1) := by decide +kernel
theorem d_G_findMessage_6 : decode prog_1_method_30_code 6 = .ok (.getfield 15, 3) := by decide +kernel
theorem d_G_findMessage_9 : decode prog_1_method_30_code 9 = .ok (.if_icmp .ge 18, 3) := by decide +kernel
theorem d_G_findMessage_12 : decode prog_1_method_30_code 12 = .ok (.aload_n 0, 1) := by decide +kernel
theorem d_G_findMessage_13 : decode prog_1_method_30_code 13 = .ok (.getfield 15, 3) := by decide +kernel
theorem d_G_findMessage_16 : decode prog_1_method_30_code 16 = .ok (.iload_n 1, 1) := by decide +kernel
theorem d_G_findMessage_17 : decode prog_1_method_30_code 17 = .ok (.isub, 1) := by decide +kernel
theorem d_G_findMessage_18 : decode prog_1_method_30_code 18 = .ok (.bipush 64, 2) := by decide +kernel
theorem d_G_findMessage_20 : decode prog_1_method_30_code 20 = .ok (.if_icmp .gt 7, 3) := by decide +kernel
theorem d_G_findMessage_23 : decode prog_1_method_30_code 23 = .ok (.iconst 1, 1) := by decide +kernel
theorem d_G_findMessage_24 : decode prog_1_method_30_code 24 = .ok (.goto 4, 3) := by decide +kernel
theorem d_G_findMessage_27 : decode prog_1_method_30_code 27 = .ok (.iconst 0, 1) := by decide +kernel
theorem d_G_findMessage_28 : decode prog_1_method_30_code 28 = .ok (.istore_n 2, 1) := by decide +kernel
theorem d_G_findMessage_29 : decode prog_1_method_30_code 29 = .ok (.iload_n 2, 1) := by decide +kernel
theorem d_G_findMessage_30 : decode prog_1_method_30_code 30 = .ok (.ifCond .eq 15, 3) := by decide +kernel
theorem d_G_findMessage_33 : decode prog_1_method_30_code 33 = .ok (.aload_n 0, 1) := by decide +kernel
theorem d_G_findMessage_34 : decode prog_1_method_30_code 34 = .ok (.getfield 11, 3) := by decide +kernel
theorem d_G_findMessage_37 : decode prog_1_method_30_code 37 = .ok (.iload_n 1, 1) := by decide +kernel
theorem d_G_findMessage_38 : decode prog_1_method_30_code 38 = .ok (.bipush 64, 2) := by decide +kernel
theorem d_G_findMessage_40 : decode prog_1_method_30_code 40 = .ok (.irem, 1) := by decide +kernel
theorem d_G_findMessage_41 : decode prog_1_method_30_code 41 = .ok (.aaload, 1) := by decide +kernel
theorem d_G_findMessage_42 : decode prog_1_method_30_code 42 = .ok (.goto 4, 3) := by decide +kernel
theorem d_G_findMessage_45 : decode prog_1_method_30_code 45 = .ok (.aconst_null, 1) := by decide +kernel
theorem d_G_findMessage_46 : decode prog_1_method_30_code 46 = .ok (.areturn, 1) := by decide +kernel
theorem b_G_findMessage_0 {l : Launch} {D : va_G} {cid : Nat → ClassId} {X : CT} {Post : PT} (hX : OK l D cid m_G_findMessage X Post) : SS l D cid m_G_findMessage X 0 [o_iload 1] (t_if (fun x => x < 0) (FR l D cid m_G_findMessage X 27) (FR l D cid m_G_findMessage X 4)) := by
  refine SS.cons (so_iload_n hX d_G_findMessage_0 rfl) ?_
  exact st_if_lt hX d_G_findMessage_1 (by decide)
theorem b_G_findMessage_4 {l : Launch} {D : va_G} {cid : Nat → ClassId} {X : CT} {Post : PT} (hX : OK l D cid m_G_findMessage X Post) : SS l D cid m_G_findMessage X 4 [o_iload 1, o_aload 0, o_getf 3 4] (t_cmp (fun x y => y ≤ x) (FR l D cid m_G_findMessage X 27) (FR l D cid m_G_findMessage X 12)) := by
  refine SS.cons (so_iload_n hX d_G_findMessage_4 rfl) ?_
  refine SS.cons (so_aload_n hX d_G_findMessage_5 rfl) ?_
  refine SS.cons (so_getf (C := R_G) (T := T_G) hX d_G_findMessage_6 in_G rfl (by decide) k_163) ?_
  exact st_icmp_ge hX d_G_findMessage_9 (by decide)
theorem b_G_findMessage_12 {l : Launch} {D : va_G} {cid : Nat → ClassId} {X : CT} {Post : PT} (hX : OK l D cid m_G_findMessage X Post) : SS l D cid m_G_findMessage X 12 [o_aload 0, o_getf 3 4, o_iload 1, o_bin (fun x y => x - y), o_push (.int 64)] (t_cmp (fun x y => y < x) (FR l D cid m_G_findMessage X 27) (FR l D cid m_G_findMessage X 23)) := by
  refine SS.cons (so_aload_n hX d_G_findMessage_12 rfl) ?_
  refine SS.cons (so_getf (C := R_G) (T := T_G) hX d_G_findMessage_13 in_G rfl (by decide) k_163) ?_
  refine SS.cons (so_iload_n hX d_G_findMessage_16 rfl) ?_
  refine SS.cons (so_isub hX d_G_findMessage_17) ?_
  refine SS.cons (so_bipush hX d_G_findMessage_18 (by decide)) ?_
  exact st_icmp_gt hX d_G_findMessage_20 (by decide)
theorem b_G_findMessage_23 {l : Launch} {D : va_G} {cid : Nat → ClassId} {X : CT} {Post : PT} (hX : OK l D cid m_G_findMessage X Post) : SS l D cid m_G_findMessage X 23 [o_push (.int 1)] (FR l D cid m_G_findMessage X 28) := by
  refine SS.cons (so_iconst hX d_G_findMessage_23 (by decide)) ?_
  exact so_goto hX d_G_findMessage_24 (by decide)
theorem b_G_findMessage_27 {l : Launch} {D : va_G} {cid : Nat → ClassId} {X : CT} {Post : PT} (hX : OK l D cid m_G_findMessage X Post) : SS l D cid m_G_findMessage X 27 [o_push (.int 0)] (FR l D cid m_G_findMessage X 28) := by
  refine SS.cons (so_iconst hX d_G_findMessage_27 (by decide)) ?_
  exact SS.fall
theorem b_G_findMessage_28 {l : Launch} {D : va_G} {cid : Nat → ClassId} {X : CT} {Post : PT} (hX : OK l D cid m_G_findMessage X Post) : SS l D cid m_G_findMessage X 28 [o_istore 2, o_iload 2] (t_if (fun x => x = 0) (FR l D cid m_G_findMessage X 45) (FR l D cid m_G_findMessage X 33)) := by
  refine SS.cons (so_istore_n hX d_G_findMessage_28 rfl (by decide)) ?_
  refine SS.cons (so_iload_n hX d_G_findMessage_29 rfl) ?_
  exact st_if_eq hX d_G_findMessage_30 (by decide)
theorem b_G_findMessage_33 {l : Launch} {D : va_G} {cid : Nat → ClassId} {X : CT} {Post : PT} (hX : OK l D cid m_G_findMessage X Post) : SS l D cid m_G_findMessage X 33 [o_aload 0, o_getf 3 3, o_iload 1, o_push (.int 64), o_binz (fun x y => x - x / y * y), o_aldq 2] (FR l D cid m_G_findMessage X 46) := by
  refine SS.cons (so_aload_n hX d_G_findMessage_33 rfl) ?_
  refine SS.cons (so_getf (C := R_G) (T := T_G) hX d_G_findMessage_34 in_G rfl (by decide) k_162) ?_
  refine SS.cons (so_iload_n hX d_G_findMessage_37 rfl) ?_
  refine SS.cons (so_bipush hX d_G_findMessage_38 (by decide)) ?_
  refine SS.cons (so_irem hX d_G_findMessage_40) ?_
  refine SS.cons (so_aldq hX d_G_findMessage_41 rfl) ?_
  exact so_goto hX d_G_findMessage_42 (by decide)
theorem b_G_findMessage_45 {l : Launch} {D : va_G} {cid : Nat → ClassId} {X : CT} {Post : PT} (hX : OK l D cid m_G_findMessage X Post) : SS l D cid m_G_findMessage X 45 [o_push .null] (FR l D cid m_G_findMessage X 46) := by
  refine SS.cons (so_null hX d_G_findMessage_45) ?_
  exact SS.fall
theorem b_G_findMessage_46 {l : Launch} {D : va_G} {cid : Nat → ClassId} {X : CT} {Post : PT} (hX : OK l D cid m_G_findMessage X Post) : SS l D cid m_G_findMessage X 46 [] (t_aret Post) := by
  exact st_aret hX d_G_findMessage_46 rfl
abbrev m_G_hears : MT := (⟨"GroupLog", "hears", "(LGroupLog$Replica;LGroupLog$Message;)Z"⟩, prog_1_method_34_code, 2, (some FieldType.boolean), { frames := 0, cells := 0, slots := 0, locals := 0 })
theorem pf_G_hears : plainFor m_G_hears.1 = true := by decide +kernel
theorem d_G_hears_0 : decode prog_1_method_34_code 0 = .ok (.aload_n 0, 1) := by decide +kernel
theorem d_G_hears_1 : decode prog_1_method_34_code 1 = .ok (.getfield 97, 3) := by decide +kernel
theorem d_G_hears_4 : decode prog_1_method_34_code 4 = .ok (.iconst 3, 1) := by decide +kernel
theorem d_G_hears_5 : decode prog_1_method_34_code 5 = .ok (.if_icmp .eq 37, 3) := by decide +kernel
theorem d_G_hears_8 : decode prog_1_method_34_code 8 = .ok (.aload_n 0, 1) := by decide +kernel
theorem d_G_hears_9 : decode prog_1_method_34_code 9 = .ok (.getfield 97, 3) := by decide +kernel
theorem d_G_hears_12 : decode prog_1_method_34_code 12 = .ok (.iconst 2, 1) := by decide +kernel
theorem d_G_hears_13 : decode prog_1_method_34_code 13 = .ok (.if_icmp .ne 7, 3) := by decide +kernel
theorem d_G_hears_16 : decode prog_1_method_34_code 16 = .ok (.iconst 1, 1) := by decide +kernel
theorem d_G_hears_17 : decode prog_1_method_34_code 17 = .ok (.goto 4, 3) := by decide +kernel
theorem d_G_hears_20 : decode prog_1_method_34_code 20 = .ok (.iconst 0, 1) := by decide +kernel
theorem d_G_hears_21 : decode prog_1_method_34_code 21 = .ok (.aload_n 1, 1) := by decide +kernel
theorem d_G_hears_22 : decode prog_1_method_34_code 22 = .ok (.getfield 148, 3) := by decide +kernel
theorem d_G_hears_25 : decode prog_1_method_34_code 25 = .ok (.bipush 8, 2) := by decide +kernel
theorem d_G_hears_27 : decode prog_1_method_34_code 27 = .ok (.if_icmp .ne 7, 3) := by decide +kernel
theorem d_G_hears_30 : decode prog_1_method_34_code 30 = .ok (.iconst 1, 1) := by decide +kernel
theorem d_G_hears_31 : decode prog_1_method_34_code 31 = .ok (.goto 4, 3) := by decide +kernel
theorem d_G_hears_34 : decode prog_1_method_34_code 34 = .ok (.iconst 0, 1) := by decide +kernel
theorem d_G_hears_35 : decode prog_1_method_34_code 35 = .ok (.if_icmp .ne 7, 3) := by decide +kernel
theorem d_G_hears_38 : decode prog_1_method_34_code 38 = .ok (.iconst 1, 1) := by decide +kernel
theorem d_G_hears_39 : decode prog_1_method_34_code 39 = .ok (.goto 4, 3) := by decide +kernel
theorem d_G_hears_42 : decode prog_1_method_34_code 42 = .ok (.iconst 0, 1) := by decide +kernel
theorem d_G_hears_43 : decode prog_1_method_34_code 43 = .ok (.ireturn, 1) := by decide +kernel
theorem b_G_hears_0 {l : Launch} {D : va_G} {cid : Nat → ClassId} {X : CT} {Post : PT} (hX : OK l D cid m_G_hears X Post) : SS l D cid m_G_hears X 0 [o_aload 0, o_getf 2 1, o_push (.int 3)] (t_cmp (fun x y => x = y) (FR l D cid m_G_hears X 42) (FR l D cid m_G_hears X 8)) := by
  refine SS.cons (so_aload_n hX d_G_hears_0 rfl) ?_
  refine SS.cons (so_getf (C := R_P) (T := T_P) hX d_G_hears_1 in_P rfl (by decide) k_105) ?_
  refine SS.cons (so_iconst hX d_G_hears_4 (by decide)) ?_
  exact st_icmp_eq hX d_G_hears_5 (by decide)
theorem b_G_hears_8 {l : Launch} {D : va_G} {cid : Nat → ClassId} {X : CT} {Post : PT} (hX : OK l D cid m_G_hears X Post) : SS l D cid m_G_hears X 8 [o_aload 0, o_getf 2 1, o_push (.int 2)] (t_cmp (fun x y => ¬ x = y) (FR l D cid m_G_hears X 20) (FR l D cid m_G_hears X 16)) := by
  refine SS.cons (so_aload_n hX d_G_hears_8 rfl) ?_
  refine SS.cons (so_getf (C := R_P) (T := T_P) hX d_G_hears_9 in_P rfl (by decide) k_105) ?_
  refine SS.cons (so_iconst hX d_G_hears_12 (by decide)) ?_
  exact st_icmp_ne hX d_G_hears_13 (by decide)
theorem b_G_hears_16 {l : Launch} {D : va_G} {cid : Nat → ClassId} {X : CT} {Post : PT} (hX : OK l D cid m_G_hears X Post) : SS l D cid m_G_hears X 16 [o_push (.int 1)] (FR l D cid m_G_hears X 21) := by
  refine SS.cons (so_iconst hX d_G_hears_16 (by decide)) ?_
  exact so_goto hX d_G_hears_17 (by decide)
theorem b_G_hears_20 {l : Launch} {D : va_G} {cid : Nat → ClassId} {X : CT} {Post : PT} (hX : OK l D cid m_G_hears X Post) : SS l D cid m_G_hears X 20 [o_push (.int 0)] (FR l D cid m_G_hears X 21) := by
  refine SS.cons (so_iconst hX d_G_hears_20 (by decide)) ?_
  exact SS.fall
theorem b_G_hears_21 {l : Launch} {D : va_G} {cid : Nat → ClassId} {X : CT} {Post : PT} (hX : OK l D cid m_G_hears X Post) : SS l D cid m_G_hears X 21 [o_aload 1, o_getf 1 0, o_push (.int 8)] (t_cmp (fun x y => ¬ x = y) (FR l D cid m_G_hears X 34) (FR l D cid m_G_hears X 30)) := by
  refine SS.cons (so_aload_n hX d_G_hears_21 rfl) ?_
  refine SS.cons (so_getf (C := R_E) (T := T_E) hX d_G_hears_22 in_E rfl (by decide) k_243) ?_
  refine SS.cons (so_bipush hX d_G_hears_25 (by decide)) ?_
  exact st_icmp_ne hX d_G_hears_27 (by decide)
theorem b_G_hears_30 {l : Launch} {D : va_G} {cid : Nat → ClassId} {X : CT} {Post : PT} (hX : OK l D cid m_G_hears X Post) : SS l D cid m_G_hears X 30 [o_push (.int 1)] (FR l D cid m_G_hears X 35) := by
  refine SS.cons (so_iconst hX d_G_hears_30 (by decide)) ?_
  exact so_goto hX d_G_hears_31 (by decide)
theorem b_G_hears_34 {l : Launch} {D : va_G} {cid : Nat → ClassId} {X : CT} {Post : PT} (hX : OK l D cid m_G_hears X Post) : SS l D cid m_G_hears X 34 [o_push (.int 0)] (FR l D cid m_G_hears X 35) := by
  refine SS.cons (so_iconst hX d_G_hears_34 (by decide)) ?_
  exact SS.fall
theorem b_G_hears_35 {l : Launch} {D : va_G} {cid : Nat → ClassId} {X : CT} {Post : PT} (hX : OK l D cid m_G_hears X Post) : SS l D cid m_G_hears X 35 [] (t_cmp (fun x y => ¬ x = y) (FR l D cid m_G_hears X 42) (FR l D cid m_G_hears X 38)) := by
  exact st_icmp_ne hX d_G_hears_35 (by decide)
theorem b_G_hears_38 {l : Launch} {D : va_G} {cid : Nat → ClassId} {X : CT} {Post : PT} (hX : OK l D cid m_G_hears X Post) : SS l D cid m_G_hears X 38 [o_push (.int 1)] (FR l D cid m_G_hears X 43) := by
  refine SS.cons (so_iconst hX d_G_hears_38 (by decide)) ?_
  exact so_goto hX d_G_hears_39 (by decide)
theorem b_G_hears_42 {l : Launch} {D : va_G} {cid : Nat → ClassId} {X : CT} {Post : PT} (hX : OK l D cid m_G_hears X Post) : SS l D cid m_G_hears X 42 [o_push (.int 0)] (FR l D cid m_G_hears X 43) := by
  refine SS.cons (so_iconst hX d_G_hears_42 (by decide)) ?_
  exact SS.fall
theorem b_G_hears_43 {l : Launch} {D : va_G} {cid : Nat → ClassId} {X : CT} {Post : PT} (hX : OK l D cid m_G_hears X Post) : SS l D cid m_G_hears X 43 [] (t_zret Post) := by
  exact st_zret hX d_G_hears_43 rfl
abbrev m_G_isOutdated : MT := (⟨"GroupLog", "isOutdated", "(LGroupLog$Replica;LGroupLog$Message;)Z"⟩, prog_1_method_35_code, 2, (some FieldType.boolean), { frames := 0, cells := 0, slots := 0, locals := 0 })
theorem pf_G_isOutdated : plainFor m_G_isOutdated.1 = true := by decide +kernel
theorem d_G_isOutdated_0 : decode prog_1_method_35_code 0 = .ok (.aload_n 1, 1) := by decide +kernel
theorem d_G_isOutdated_1 : decode prog_1_method_35_code 1 = .ok (.getfield 181, 3) := by decide +kernel
theorem d_G_isOutdated_4 : decode prog_1_method_35_code 4 = .ok (.aload_n 1, 1) := by decide +kernel
theorem d_G_isOutdated_5 : decode prog_1_method_35_code 5 = .ok (.getfield 151, 3) := by decide +kernel
theorem d_G_isOutdated_8 : decode prog_1_method_35_code 8 = .ok (.iaload, 1) := by decide +kernel
theorem d_G_isOutdated_9 : decode prog_1_method_35_code 9 = .ok (.aload_n 0, 1) := by decide +kernel
theorem d_G_isOutdated_10 : decode prog_1_method_35_code 10 = .ok (.getfield 119, 3) := by decide +kernel
theorem d_G_isOutdated_13 : decode prog_1_method_35_code 13 = .ok (.aload_n 1, 1) := by decide +kernel
theorem d_G_isOutdated_14 : decode prog_1_method_35_code 14 = .ok (.getfield 151, 3) := by decide +kernel
theorem d_G_isOutdated_17 : decode prog_1_method_35_code 17 = .ok (.iaload, 1) := by decide +kernel
theorem d_G_isOutdated_18 : decode prog_1_method_35_code 18 = .ok (.if_icmp .lt 33, 3) := by decide +kernel
theorem d_G_isOutdated_21 : decode prog_1_method_35_code 21 = .ok (.aload_n 1, 1) := by decide +kernel
theorem d_G_isOutdated_22 : decode prog_1_method_35_code 22 = .ok (.getfield 148, 3) := by decide +kernel
theorem d_G_isOutdated_25 : decode prog_1_method_35_code 25 = .ok (.bipush 8, 2) := by decide +kernel
theorem d_G_isOutdated_27 : decode prog_1_method_35_code 27 = .ok (.if_icmp .ne 28, 3) := by decide +kernel
theorem d_G_isOutdated_30 : decode prog_1_method_35_code 30 = .ok (.aload_n 1, 1) := by decide +kernel
theorem d_G_isOutdated_31 : decode prog_1_method_35_code 31 = .ok (.getfield 181, 3) := by decide +kernel
theorem d_G_isOutdated_34 : decode prog_1_method_35_code 34 = .ok (.aload_n 0, 1) := by decide +kernel
theorem d_G_isOutdated_35 : decode prog_1_method_35_code 35 = .ok (.getfield 122, 3) := by decide +kernel
theorem d_G_isOutdated_38 : decode prog_1_method_35_code 38 = .ok (.iaload, 1) := by decide +kernel
theorem d_G_isOutdated_39 : decode prog_1_method_35_code 39 = .ok (.aload_n 0, 1) := by decide +kernel
theorem d_G_isOutdated_40 : decode prog_1_method_35_code 40 = .ok (.getfield 119, 3) := by decide +kernel
theorem d_G_isOutdated_43 : decode prog_1_method_35_code 43 = .ok (.aload_n 0, 1) := by decide +kernel
theorem d_G_isOutdated_44 : decode prog_1_method_35_code 44 = .ok (.getfield 122, 3) := by decide +kernel
theorem d_G_isOutdated_47 : decode prog_1_method_35_code 47 = .ok (.iaload, 1) := by decide +kernel
theorem d_G_isOutdated_48 : decode prog_1_method_35_code 48 = .ok (.if_icmp .eq 7, 3) := by decide +kernel
theorem d_G_isOutdated_51 : decode prog_1_method_35_code 51 = .ok (.iconst 1, 1) := by decide +kernel
theorem d_G_isOutdated_52 : decode prog_1_method_35_code 52 = .ok (.goto 4, 3) := by decide +kernel
theorem d_G_isOutdated_55 : decode prog_1_method_35_code 55 = .ok (.iconst 0, 1) := by decide +kernel
theorem d_G_isOutdated_56 : decode prog_1_method_35_code 56 = .ok (.ireturn, 1) := by decide +kernel
theorem b_G_isOutdated_0 {l : Launch} {D : va_G} {cid : Nat → ClassId} {X : CT} {Post : PT} (hX : OK l D cid m_G_isOutdated X Post) : SS l D cid m_G_isOutdated X 0 [o_aload 1, o_getf 1 5, o_aload 1, o_getf 1 1, o_ald 0, o_aload 0, o_getf 2 6, o_aload 1, o_getf 1 1, o_ald 0] (t_cmp (fun x y => x < y) (FR l D cid m_G_isOutdated X 51) (FR l D cid m_G_isOutdated X 21)) := by
  refine SS.cons (so_aload_n hX d_G_isOutdated_0 rfl) ?_
  refine SS.cons (so_getf (C := R_E) (T := T_E) hX d_G_isOutdated_1 in_E rfl (by decide) k_255) ?_
  refine SS.cons (so_aload_n hX d_G_isOutdated_4 rfl) ?_
  refine SS.cons (so_getf (C := R_E) (T := T_E) hX d_G_isOutdated_5 in_E rfl (by decide) k_245) ?_
  refine SS.cons (so_iald hX d_G_isOutdated_8) ?_
  refine SS.cons (so_aload_n hX d_G_isOutdated_9 rfl) ?_
  refine SS.cons (so_getf (C := R_P) (T := T_P) hX d_G_isOutdated_10 in_P rfl (by decide) k_119) ?_
  refine SS.cons (so_aload_n hX d_G_isOutdated_13 rfl) ?_
  refine SS.cons (so_getf (C := R_E) (T := T_E) hX d_G_isOutdated_14 in_E rfl (by decide) k_245) ?_
  refine SS.cons (so_iald hX d_G_isOutdated_17) ?_
  exact st_icmp_lt hX d_G_isOutdated_18 (by decide)
theorem b_G_isOutdated_21 {l : Launch} {D : va_G} {cid : Nat → ClassId} {X : CT} {Post : PT} (hX : OK l D cid m_G_isOutdated X Post) : SS l D cid m_G_isOutdated X 21 [o_aload 1, o_getf 1 0, o_push (.int 8)] (t_cmp (fun x y => ¬ x = y) (FR l D cid m_G_isOutdated X 55) (FR l D cid m_G_isOutdated X 30)) := by
  refine SS.cons (so_aload_n hX d_G_isOutdated_21 rfl) ?_
  refine SS.cons (so_getf (C := R_E) (T := T_E) hX d_G_isOutdated_22 in_E rfl (by decide) k_243) ?_
  refine SS.cons (so_bipush hX d_G_isOutdated_25 (by decide)) ?_
  exact st_icmp_ne hX d_G_isOutdated_27 (by decide)
theorem b_G_isOutdated_30 {l : Launch} {D : va_G} {cid : Nat → ClassId} {X : CT} {Post : PT} (hX : OK l D cid m_G_isOutdated X Post) : SS l D cid m_G_isOutdated X 30 [o_aload 1, o_getf 1 5, o_aload 0, o_getf 2 0, o_ald 0, o_aload 0, o_getf 2 6, o_aload 0, o_getf 2 0, o_ald 0] (t_cmp (fun x y => x = y) (FR l D cid m_G_isOutdated X 55) (FR l D cid m_G_isOutdated X 51)) := by
  refine SS.cons (so_aload_n hX d_G_isOutdated_30 rfl) ?_
  refine SS.cons (so_getf (C := R_E) (T := T_E) hX d_G_isOutdated_31 in_E rfl (by decide) k_255) ?_
  refine SS.cons (so_aload_n hX d_G_isOutdated_34 rfl) ?_
  refine SS.cons (so_getf (C := R_P) (T := T_P) hX d_G_isOutdated_35 in_P rfl (by decide) k_103) ?_
  refine SS.cons (so_iald hX d_G_isOutdated_38) ?_
  refine SS.cons (so_aload_n hX d_G_isOutdated_39 rfl) ?_
  refine SS.cons (so_getf (C := R_P) (T := T_P) hX d_G_isOutdated_40 in_P rfl (by decide) k_119) ?_
  refine SS.cons (so_aload_n hX d_G_isOutdated_43 rfl) ?_
  refine SS.cons (so_getf (C := R_P) (T := T_P) hX d_G_isOutdated_44 in_P rfl (by decide) k_103) ?_
  refine SS.cons (so_iald hX d_G_isOutdated_47) ?_
  exact st_icmp_eq hX d_G_isOutdated_48 (by decide)
theorem b_G_isOutdated_51 {l : Launch} {D : va_G} {cid : Nat → ClassId} {X : CT} {Post : PT} (hX : OK l D cid m_G_isOutdated X Post) : SS l D cid m_G_isOutdated X 51 [o_push (.int 1)] (FR l D cid m_G_isOutdated X 56) := by
  refine SS.cons (so_iconst hX d_G_isOutdated_51 (by decide)) ?_
  exact so_goto hX d_G_isOutdated_52 (by decide)
theorem b_G_isOutdated_55 {l : Launch} {D : va_G} {cid : Nat → ClassId} {X : CT} {Post : PT} (hX : OK l D cid m_G_isOutdated X Post) : SS l D cid m_G_isOutdated X 55 [o_push (.int 0)] (FR l D cid m_G_isOutdated X 56) := by
  refine SS.cons (so_iconst hX d_G_isOutdated_55 (by decide)) ?_
  exact SS.fall
theorem b_G_isOutdated_56 {l : Launch} {D : va_G} {cid : Nat → ClassId} {X : CT} {Post : PT} (hX : OK l D cid m_G_isOutdated X Post) : SS l D cid m_G_isOutdated X 56 [] (t_zret Post) := by
  exact st_zret hX d_G_isOutdated_56 rfl
abbrev m_G_takePrepare : MT := (⟨"GroupLog", "takePrepare", "(LGroupLog$Replica;LGroupLog$Message;)V"⟩, prog_1_method_37_code, 4, (none : Option FieldType), { frames := 3, cells := 3, slots := 22, locals := 66 })
theorem pf_G_takePrepare : plainFor m_G_takePrepare.1 = true := by decide +kernel
theorem d_G_takePrepare_0 : decode prog_1_method_37_code 0 = .ok (.aload_n 2, 1) := by decide +kernel
theorem d_G_takePrepare_1 : decode prog_1_method_37_code 1 = .ok (.getfield 157, 3) := by decide +kernel
theorem d_G_takePrepare_4 : decode prog_1_method_37_code 4 = .ok (.aload_n 1, 1) := by decide +kernel
theorem d_G_takePrepare_5 : decode prog_1_method_37_code 5 = .ok (.getfield 100, 3) := by decide +kernel
theorem d_G_takePrepare_8 : decode prog_1_method_37_code 8 = .ok (.if_icmp .ge 4, 3) := by decide +kernel
theorem d_G_takePrepare_11 : decode prog_1_method_37_code 11 = .ok (.return_, 1) := by decide +kernel
theorem d_G_takePrepare_12 : decode prog_1_method_37_code 12 = .ok (.aload_n 2, 1) := by decide +kernel
theorem d_G_takePrepare_13 : decode prog_1_method_37_code 13 = .ok (.getfield 157, 3) := by decide +kernel
theorem d_G_takePrepare_16 : decode prog_1_method_37_code 16 = .ok (.aload_n 1, 1) := by decide +kernel
theorem d_G_takePrepare_17 : decode prog_1_method_37_code 17 = .ok (.getfield 100, 3) := by decide +kernel
theorem d_G_takePrepare_20 : decode prog_1_method_37_code 20 = .ok (.if_icmp .ne 14, 3) := by decide +kernel
theorem d_G_takePrepare_23 : decode prog_1_method_37_code 23 = .ok (.aload_n 1, 1) := by decide +kernel
theorem d_G_takePrepare_24 : decode prog_1_method_37_code 24 = .ok (.getfield 97, 3) := by decide +kernel
theorem d_G_takePrepare_27 : decode prog_1_method_37_code 27 = .ok (.ifCond .ne 7, 3) := by decide +kernel
theorem d_G_takePrepare_30 : decode prog_1_method_37_code 30 = .ok (.iconst 1, 1) := by decide +kernel
theorem d_G_takePrepare_31 : decode prog_1_method_37_code 31 = .ok (.goto 4, 3) := by decide +kernel
theorem d_G_takePrepare_34 : decode prog_1_method_37_code 34 = .ok (.iconst 0, 1) := by decide +kernel
theorem d_G_takePrepare_35 : decode prog_1_method_37_code 35 = .ok (.istore_n 3, 1) := by decide +kernel
theorem d_G_takePrepare_36 : decode prog_1_method_37_code 36 = .ok (.iload_n 3, 1) := by decide +kernel
theorem d_G_takePrepare_37 : decode prog_1_method_37_code 37 = .ok (.ifCond .eq 22, 3) := by decide +kernel
theorem d_G_takePrepare_40 : decode prog_1_method_37_code 40 = .ok (.aload_n 2, 1) := by decide +kernel
theorem d_G_takePrepare_41 : decode prog_1_method_37_code 41 = .ok (.getfield 215, 3) := by decide +kernel
theorem d_G_takePrepare_44 : decode prog_1_method_37_code 44 = .ok (.getfield 73, 3) := by decide +kernel
theorem d_G_takePrepare_47 : decode prog_1_method_37_code 47 = .ok (.aload_n 1, 1) := by decide +kernel
theorem d_G_takePrepare_48 : decode prog_1_method_37_code 48 = .ok (.getfield 55, 3) := by decide +kernel
theorem d_G_takePrepare_51 : decode prog_1_method_37_code 51 = .ok (.getfield 73, 3) := by decide +kernel
theorem d_G_takePrepare_54 : decode prog_1_method_37_code 54 = .ok (.iconst 1, 1) := by decide +kernel
theorem d_G_takePrepare_55 : decode prog_1_method_37_code 55 = .ok (.iadd, 1) := by decide +kernel
theorem d_G_takePrepare_56 : decode prog_1_method_37_code 56 = .ok (.if_icmp .le 14, 3) := by decide +kernel
theorem d_G_takePrepare_59 : decode prog_1_method_37_code 59 = .ok (.aload_n 0, 1) := by decide +kernel
theorem d_G_takePrepare_60 : decode prog_1_method_37_code 60 = .ok (.aload_n 1, 1) := by decide +kernel
theorem d_G_takePrepare_61 : decode prog_1_method_37_code 61 = .ok (.iconst 3, 1) := by decide +kernel
theorem d_G_takePrepare_62 : decode prog_1_method_37_code 62 = .ok (.aload_n 2, 1) := by decide +kernel
theorem d_G_takePrepare_63 : decode prog_1_method_37_code 63 = .ok (.getfield 151, 3) := by decide +kernel
theorem d_G_takePrepare_66 : decode prog_1_method_37_code 66 = .ok (.invokevirtual 171, 3) := by decide +kernel
theorem d_G_takePrepare_69 : decode prog_1_method_37_code 69 = .ok (.return_, 1) := by decide +kernel
theorem d_G_takePrepare_70 : decode prog_1_method_37_code 70 = .ok (.aload_n 2, 1) := by decide +kernel
theorem d_G_takePrepare_71 : decode prog_1_method_37_code 71 = .ok (.getfield 215, 3) := by decide +kernel
theorem d_G_takePrepare_74 : decode prog_1_method_37_code 74 = .ok (.getfield 73, 3) := by decide +kernel
theorem d_G_takePrepare_77 : decode prog_1_method_37_code 77 = .ok (.aload_n 1, 1) := by decide +kernel
theorem d_G_takePrepare_78 : decode prog_1_method_37_code 78 = .ok (.getfield 55, 3) := by decide +kernel
theorem d_G_takePrepare_81 : decode prog_1_method_37_code 81 = .ok (.getfield 73, 3) := by decide +kernel
theorem d_G_takePrepare_84 : decode prog_1_method_37_code 84 = .ok (.iconst 1, 1) := by decide +kernel
theorem d_G_takePrepare_85 : decode prog_1_method_37_code 85 = .ok (.iadd, 1) := by decide +kernel
theorem d_G_takePrepare_86 : decode prog_1_method_37_code 86 = .ok (.if_icmp .ne 39, 3) := by decide +kernel
theorem d_G_takePrepare_89 : decode prog_1_method_37_code 89 = .ok (.aload_n 1, 1) := by decide +kernel
theorem d_G_takePrepare_90 : decode prog_1_method_37_code 90 = .ok (.new 60, 3) := by decide +kernel
theorem d_G_takePrepare_93 : decode prog_1_method_37_code 93 = .ok (.dup, 1) := by decide +kernel
theorem d_G_takePrepare_94 : decode prog_1_method_37_code 94 = .ok (.aload_n 1, 1) := by decide +kernel
theorem d_G_takePrepare_95 : decode prog_1_method_37_code 95 = .ok (.getfield 55, 3) := by decide +kernel
theorem d_G_takePrepare_98 : decode prog_1_method_37_code 98 = .ok (.aload_n 2, 1) := by decide +kernel
theorem d_G_takePrepare_99 : decode prog_1_method_37_code 99 = .ok (.getfield 215, 3) := by decide +kernel
theorem d_G_takePrepare_102 : decode prog_1_method_37_code 102 = .ok (.getfield 142, 3) := by decide +kernel
theorem d_G_takePrepare_105 : decode prog_1_method_37_code 105 = .ok (.aload_n 2, 1) := by decide +kernel
theorem d_G_takePrepare_106 : decode prog_1_method_37_code 106 = .ok (.getfield 215, 3) := by decide +kernel
theorem d_G_takePrepare_109 : decode prog_1_method_37_code 109 = .ok (.getfield 139, 3) := by decide +kernel
theorem d_G_takePrepare_112 : decode prog_1_method_37_code 112 = .ok (.aload_n 2, 1) := by decide +kernel
theorem d_G_takePrepare_113 : decode prog_1_method_37_code 113 = .ok (.getfield 215, 3) := by decide +kernel
theorem d_G_takePrepare_116 : decode prog_1_method_37_code 116 = .ok (.getfield 136, 3) := by decide +kernel
theorem d_G_takePrepare_119 : decode prog_1_method_37_code 119 = .ok (.invokespecial 76, 3) := by decide +kernel
theorem d_G_takePrepare_122 : decode prog_1_method_37_code 122 = .ok (.putfield 55, 3) := by decide +kernel
theorem d_G_takePrepare_125 : decode prog_1_method_37_code 125 = .ok (.aload_n 1, 1) := by decide +kernel
theorem d_G_takePrepare_126 : decode prog_1_method_37_code 126 = .ok (.aload_n 1, 1) := by decide +kernel
theorem d_G_takePrepare_127 : decode prog_1_method_37_code 127 = .ok (.getfield 125, 3) := by decide +kernel
theorem d_G_takePrepare_130 : decode prog_1_method_37_code 130 = .ok (.aload_n 2, 1) := by decide +kernel
theorem d_G_takePrepare_131 : decode prog_1_method_37_code 131 = .ok (.getfield 216, 3) := by decide +kernel
theorem d_G_takePrepare_134 : decode prog_1_method_37_code 134 = .ok (.aload_n 1, 1) := by decide +kernel
theorem d_G_takePrepare_135 : decode prog_1_method_37_code 135 = .ok (.getfield 55, 3) := by decide +kernel
theorem d_G_takePrepare_138 : decode prog_1_method_37_code 138 = .ok (.getfield 73, 3) := by decide +kernel
theorem d_G_takePrepare_141 : decode prog_1_method_37_code 141 = .ok (.invokestatic 217, 3) := by decide +kernel
theorem d_G_takePrepare_144 : decode prog_1_method_37_code 144 = .ok (.invokestatic 91, 3) := by decide +kernel
theorem d_G_takePrepare_147 : decode prog_1_method_37_code 147 = .ok (.putfield 125, 3) := by decide +kernel
theorem d_G_takePrepare_150 : decode prog_1_method_37_code 150 = .ok (.aload_n 0, 1) := by decide +kernel
theorem d_G_takePrepare_151 : decode prog_1_method_37_code 151 = .ok (.aload_n 1, 1) := by decide +kernel
theorem d_G_takePrepare_152 : decode prog_1_method_37_code 152 = .ok (.iconst 2, 1) := by decide +kernel
theorem d_G_takePrepare_153 : decode prog_1_method_37_code 153 = .ok (.aload_n 2, 1) := by decide +kernel
theorem d_G_takePrepare_154 : decode prog_1_method_37_code 154 = .ok (.getfield 151, 3) := by decide +kernel
theorem d_G_takePrepare_157 : decode prog_1_method_37_code 157 = .ok (.invokevirtual 171, 3) := by decide +kernel
theorem d_G_takePrepare_160 : decode prog_1_method_37_code 160 = .ok (.return_, 1) := by decide +kernel
theorem b_G_takePrepare_0 {l : Launch} {D : va_G} {cid : Nat → ClassId} {X : CT} {Post : PT} (hX : OK l D cid m_G_takePrepare X Post) : SS l D cid m_G_takePrepare X 0 [o_aload 2, o_getf 1 3, o_aload 1, o_getf 2 2] (t_cmp (fun x y => y ≤ x) (FR l D cid m_G_takePrepare X 12) (FR l D cid m_G_takePrepare X 11)) := by
  refine SS.cons (so_aload_n hX d_G_takePrepare_0 rfl) ?_
  refine SS.cons (so_getf (C := R_E) (T := T_E) hX d_G_takePrepare_1 in_E rfl (by decide) k_250) ?_
  refine SS.cons (so_aload_n hX d_G_takePrepare_4 rfl) ?_
  refine SS.cons (so_getf (C := R_P) (T := T_P) hX d_G_takePrepare_5 in_P rfl (by decide) k_108) ?_
  exact st_icmp_ge hX d_G_takePrepare_8 (by decide)
theorem b_G_takePrepare_11 {l : Launch} {D : va_G} {cid : Nat → ClassId} {X : CT} {Post : PT} (hX : OK l D cid m_G_takePrepare X Post) : SS l D cid m_G_takePrepare X 11 [] (t_ret Post) := by
  exact st_ret hX d_G_takePrepare_11 rfl
theorem b_G_takePrepare_12 {l : Launch} {D : va_G} {cid : Nat → ClassId} {X : CT} {Post : PT} (hX : OK l D cid m_G_takePrepare X Post) : SS l D cid m_G_takePrepare X 12 [o_aload 2, o_getf 1 3, o_aload 1, o_getf 2 2] (t_cmp (fun x y => ¬ x = y) (FR l D cid m_G_takePrepare X 34) (FR l D cid m_G_takePrepare X 23)) := by
  refine SS.cons (so_aload_n hX d_G_takePrepare_12 rfl) ?_
  refine SS.cons (so_getf (C := R_E) (T := T_E) hX d_G_takePrepare_13 in_E rfl (by decide) k_250) ?_
  refine SS.cons (so_aload_n hX d_G_takePrepare_16 rfl) ?_
  refine SS.cons (so_getf (C := R_P) (T := T_P) hX d_G_takePrepare_17 in_P rfl (by decide) k_108) ?_
  exact st_icmp_ne hX d_G_takePrepare_20 (by decide)
theorem b_G_takePrepare_23 {l : Launch} {D : va_G} {cid : Nat → ClassId} {X : CT} {Post : PT} (hX : OK l D cid m_G_takePrepare X Post) : SS l D cid m_G_takePrepare X 23 [o_aload 1, o_getf 2 1] (t_if (fun x => ¬ x = 0) (FR l D cid m_G_takePrepare X 34) (FR l D cid m_G_takePrepare X 30)) := by
  refine SS.cons (so_aload_n hX d_G_takePrepare_23 rfl) ?_
  refine SS.cons (so_getf (C := R_P) (T := T_P) hX d_G_takePrepare_24 in_P rfl (by decide) k_105) ?_
  exact st_if_ne hX d_G_takePrepare_27 (by decide)
theorem b_G_takePrepare_30 {l : Launch} {D : va_G} {cid : Nat → ClassId} {X : CT} {Post : PT} (hX : OK l D cid m_G_takePrepare X Post) : SS l D cid m_G_takePrepare X 30 [o_push (.int 1)] (FR l D cid m_G_takePrepare X 35) := by
  refine SS.cons (so_iconst hX d_G_takePrepare_30 (by decide)) ?_
  exact so_goto hX d_G_takePrepare_31 (by decide)
theorem b_G_takePrepare_34 {l : Launch} {D : va_G} {cid : Nat → ClassId} {X : CT} {Post : PT} (hX : OK l D cid m_G_takePrepare X Post) : SS l D cid m_G_takePrepare X 34 [o_push (.int 0)] (FR l D cid m_G_takePrepare X 35) := by
  refine SS.cons (so_iconst hX d_G_takePrepare_34 (by decide)) ?_
  exact SS.fall
theorem b_G_takePrepare_35 {l : Launch} {D : va_G} {cid : Nat → ClassId} {X : CT} {Post : PT} (hX : OK l D cid m_G_takePrepare X Post) : SS l D cid m_G_takePrepare X 35 [o_istore 3, o_iload 3] (t_if (fun x => x = 0) (FR l D cid m_G_takePrepare X 59) (FR l D cid m_G_takePrepare X 40)) := by
  refine SS.cons (so_istore_n hX d_G_takePrepare_35 rfl (by decide)) ?_
  refine SS.cons (so_iload_n hX d_G_takePrepare_36 rfl) ?_
  exact st_if_eq hX d_G_takePrepare_37 (by decide)
theorem b_G_takePrepare_40 {l : Launch} {D : va_G} {cid : Nat → ClassId} {X : CT} {Post : PT} (hX : OK l D cid m_G_takePrepare X Post) : SS l D cid m_G_takePrepare X 40 [o_aload 2, o_getf 1 6, o_getf 0 1, o_aload 1, o_getf 2 4, o_getf 0 1, o_push (.int 1), o_bin (fun x y => x + y)] (t_cmp (fun x y => x ≤ y) (FR l D cid m_G_takePrepare X 70) (FR l D cid m_G_takePrepare X 59)) := by
  refine SS.cons (so_aload_n hX d_G_takePrepare_40 rfl) ?_
  refine SS.cons (so_getf (C := R_E) (T := T_E) hX d_G_takePrepare_41 in_E rfl (by decide) k_258) ?_
  refine SS.cons (so_getf (C := R_L) (T := T_L) hX d_G_takePrepare_44 in_L rfl (by decide) k_76) ?_
  refine SS.cons (so_aload_n hX d_G_takePrepare_47 rfl) ?_
  refine SS.cons (so_getf (C := R_P) (T := T_P) hX d_G_takePrepare_48 in_P rfl (by decide) k_113) ?_
  refine SS.cons (so_getf (C := R_L) (T := T_L) hX d_G_takePrepare_51 in_L rfl (by decide) k_76) ?_
  refine SS.cons (so_iconst hX d_G_takePrepare_54 (by decide)) ?_
  refine SS.cons (so_iadd hX d_G_takePrepare_55) ?_
  exact st_icmp_le hX d_G_takePrepare_56 (by decide)
theorem b_G_takePrepare_59 {l : Launch} {D : va_G} {cid : Nat → ClassId} {X : CT} {Post : PT} (hX : OK l D cid m_G_takePrepare X Post) : SS l D cid m_G_takePrepare X 59 [o_aload 0, o_aload 1, o_push (.int 3), o_aload 2, o_getf 1 1, o_callV l D cid m_G_send 3 3] (t_ret Post) := by
  refine SS.cons (so_aload_n hX d_G_takePrepare_59 rfl) ?_
  refine SS.cons (so_aload_n hX d_G_takePrepare_60 rfl) ?_
  refine SS.cons (so_iconst hX d_G_takePrepare_61 (by decide)) ?_
  refine SS.cons (so_aload_n hX d_G_takePrepare_62 rfl) ?_
  refine SS.cons (so_getf (C := R_E) (T := T_E) hX d_G_takePrepare_63 in_E rfl (by decide) k_245) ?_
  refine SS.cons (so_callV (M' := m_G_send) (T := T_G) hX d_G_takePrepare_66 rfl k_236 k_233 k_235 k_6 k_45 pf_G_send (by decide) (by decide +kernel) ⟨by decide, by decide⟩) ?_
  exact st_ret hX d_G_takePrepare_69 rfl
theorem b_G_takePrepare_70 {l : Launch} {D : va_G} {cid : Nat → ClassId} {X : CT} {Post : PT} (hX : OK l D cid m_G_takePrepare X Post) : SS l D cid m_G_takePrepare X 70 [o_aload 2, o_getf 1 6, o_getf 0 1, o_aload 1, o_getf 2 4, o_getf 0 1, o_push (.int 1), o_bin (fun x y => x + y)] (t_cmp (fun x y => ¬ x = y) (FR l D cid m_G_takePrepare X 125) (FR l D cid m_G_takePrepare X 89)) := by
  refine SS.cons (so_aload_n hX d_G_takePrepare_70 rfl) ?_
  refine SS.cons (so_getf (C := R_E) (T := T_E) hX d_G_takePrepare_71 in_E rfl (by decide) k_258) ?_
  refine SS.cons (so_getf (C := R_L) (T := T_L) hX d_G_takePrepare_74 in_L rfl (by decide) k_76) ?_
  refine SS.cons (so_aload_n hX d_G_takePrepare_77 rfl) ?_
  refine SS.cons (so_getf (C := R_P) (T := T_P) hX d_G_takePrepare_78 in_P rfl (by decide) k_113) ?_
  refine SS.cons (so_getf (C := R_L) (T := T_L) hX d_G_takePrepare_81 in_L rfl (by decide) k_76) ?_
  refine SS.cons (so_iconst hX d_G_takePrepare_84 (by decide)) ?_
  refine SS.cons (so_iadd hX d_G_takePrepare_85) ?_
  exact st_icmp_ne hX d_G_takePrepare_86 (by decide)
theorem b_G_takePrepare_89 {l : Launch} {D : va_G} {cid : Nat → ClassId} {X : CT} {Post : PT} (hX : OK l D cid m_G_takePrepare X Post) : SS l D cid m_G_takePrepare X 89 [o_aload 1, o_new 0 6 df_L, o_dup, o_aload 1, o_getf 2 4, o_aload 2, o_getf 1 6, o_getf 0 2, o_aload 2, o_getf 1 6, o_getf 0 3, o_aload 2, o_getf 1 6, o_getf 0 4, o_callI l D cid m_L_init2 4, o_put okR 2 4] (FR l D cid m_G_takePrepare X 125) := by
  refine SS.cons (so_aload_n hX d_G_takePrepare_89 rfl) ?_
  refine SS.cons (so_new (C := R_L) (T := T_L) hX d_G_takePrepare_90 in_L ty_L k_225 k_69 k_47 rfl dv_L) ?_
  refine SS.cons (so_dup hX d_G_takePrepare_93) ?_
  refine SS.cons (so_aload_n hX d_G_takePrepare_94 rfl) ?_
  refine SS.cons (so_getf (C := R_P) (T := T_P) hX d_G_takePrepare_95 in_P rfl (by decide) k_113) ?_
  refine SS.cons (so_aload_n hX d_G_takePrepare_98 rfl) ?_
  refine SS.cons (so_getf (C := R_E) (T := T_E) hX d_G_takePrepare_99 in_E rfl (by decide) k_258) ?_
  refine SS.cons (so_getf (C := R_L) (T := T_L) hX d_G_takePrepare_102 in_L rfl (by decide) k_79) ?_
  refine SS.cons (so_aload_n hX d_G_takePrepare_105 rfl) ?_
  refine SS.cons (so_getf (C := R_E) (T := T_E) hX d_G_takePrepare_106 in_E rfl (by decide) k_258) ?_
  refine SS.cons (so_getf (C := R_L) (T := T_L) hX d_G_takePrepare_109 in_L rfl (by decide) k_81) ?_
  refine SS.cons (so_aload_n hX d_G_takePrepare_112 rfl) ?_
  refine SS.cons (so_getf (C := R_E) (T := T_E) hX d_G_takePrepare_113 in_E rfl (by decide) k_258) ?_
  refine SS.cons (so_getf (C := R_L) (T := T_L) hX d_G_takePrepare_116 in_L rfl (by decide) k_83) ?_
  refine SS.cons (so_callI (M' := m_L_init2) hX d_G_takePrepare_119 k_228 rfl k_226 k_227 k_47 rfl pf_L_init2 (by decide) (by decide +kernel) ⟨by decide, by decide⟩) ?_
  refine SS.cons (so_put (C := R_P) (T := T_P) (ok_O _) hX d_G_takePrepare_122 in_P ty_P nm_P rfl (by decide) k_113 rfl rfl) ?_
  exact SS.fall
theorem b_G_takePrepare_125 {l : Launch} {D : va_G} {cid : Nat → ClassId} {X : CT} {Post : PT} (hX : OK l D cid m_G_takePrepare X Post) : SS l D cid m_G_takePrepare X 125 [o_aload 1, o_aload 1, o_getf 2 5, o_aload 2, o_getf 1 7, o_aload 1, o_getf 2 4, o_getf 0 1, o_callS l D cid m_J_min 2, o_callS l D cid m_J_max 2, o_put okI 2 5, o_aload 0, o_aload 1, o_push (.int 2), o_aload 2, o_getf 1 1, o_callV l D cid m_G_send 3 3] (t_ret Post) := by
  refine SS.cons (so_aload_n hX d_G_takePrepare_125 rfl) ?_
  refine SS.cons (so_aload_n hX d_G_takePrepare_126 rfl) ?_
  refine SS.cons (so_getf (C := R_P) (T := T_P) hX d_G_takePrepare_127 in_P rfl (by decide) k_116) ?_
  refine SS.cons (so_aload_n hX d_G_takePrepare_130 rfl) ?_
  refine SS.cons (so_getf (C := R_E) (T := T_E) hX d_G_takePrepare_131 in_E rfl (by decide) k_261) ?_
  refine SS.cons (so_aload_n hX d_G_takePrepare_134 rfl) ?_
  refine SS.cons (so_getf (C := R_P) (T := T_P) hX d_G_takePrepare_135 in_P rfl (by decide) k_113) ?_
  refine SS.cons (so_getf (C := R_L) (T := T_L) hX d_G_takePrepare_138 in_L rfl (by decide) k_76) ?_
  refine SS.cons (so_callS (M' := m_J_min) hX d_G_takePrepare_141 k_323 k_321 k_322 k_49 pf_J_min (by decide) (by decide +kernel) ⟨by decide, by decide⟩) ?_
  refine SS.cons (so_callS (M' := m_J_max) hX d_G_takePrepare_144 k_212 k_324 k_211 k_49 pf_J_max (by decide) (by decide +kernel) ⟨by decide, by decide⟩) ?_
  refine SS.cons (so_put (C := R_P) (T := T_P) ok_I hX d_G_takePrepare_147 in_P ty_P nm_P rfl (by decide) k_116 rfl rfl) ?_
  refine SS.cons (so_aload_n hX d_G_takePrepare_150 rfl) ?_
  refine SS.cons (so_aload_n hX d_G_takePrepare_151 rfl) ?_
  refine SS.cons (so_iconst hX d_G_takePrepare_152 (by decide)) ?_
  refine SS.cons (so_aload_n hX d_G_takePrepare_153 rfl) ?_
  refine SS.cons (so_getf (C := R_E) (T := T_E) hX d_G_takePrepare_154 in_E rfl (by decide) k_245) ?_
  refine SS.cons (so_callV (M' := m_G_send) (T := T_G) hX d_G_takePrepare_157 rfl k_236 k_233 k_235 k_6 k_45 pf_G_send (by decide) (by decide +kernel) ⟨by decide, by decide⟩) ?_
  exact st_ret hX d_G_takePrepare_160 rfl
abbrev m_G_takeOk : MT := (⟨"GroupLog", "takeOk", "(LGroupLog$Replica;LGroupLog$Message;)V"⟩, prog_1_method_38_code, 6, (none : Option FieldType), { frames := 3, cells := 0, slots := 0, locals := 64 })
theorem pf_G_takeOk : plainFor m_G_takeOk.1 = true := by decide +kernel
theorem d_G_takeOk_0 : decode prog_1_method_38_code 0 = .ok (.aload_n 0, 1) := by decide +kernel
theorem d_G_takeOk_1 : decode prog_1_method_38_code 1 = .ok (.aload_n 1, 1) := by decide +kernel
theorem d_G_takeOk_2 : decode prog_1_method_38_code 2 = .ok (.invokevirtual 51, 3) := by decide +kernel
theorem d_G_takeOk_5 : decode prog_1_method_38_code 5 = .ok (.ifCond .eq 14, 3) := by decide +kernel
theorem d_G_takeOk_8 : decode prog_1_method_38_code 8 = .ok (.aload_n 2, 1) := by decide +kernel
theorem d_G_takeOk_9 : decode prog_1_method_38_code 9 = .ok (.getfield 157, 3) := by decide +kernel
theorem d_G_takeOk_12 : decode prog_1_method_38_code 12 = .ok (.aload_n 1, 1) := by decide +kernel
theorem d_G_takeOk_13 : decode prog_1_method_38_code 13 = .ok (.getfield 100, 3) := by decide +kernel
theorem d_G_takeOk_16 : decode prog_1_method_38_code 16 = .ok (.if_icmp .eq 4, 3) := by decide +kernel
theorem d_G_takeOk_19 : decode prog_1_method_38_code 19 = .ok (.return_, 1) := by decide +kernel
theorem d_G_takeOk_20 : decode prog_1_method_38_code 20 = .ok (.aload_n 1, 1) := by decide +kernel
theorem d_G_takeOk_21 : decode prog_1_method_38_code 21 = .ok (.getfield 220, 3) := by decide +kernel
theorem d_G_takeOk_24 : decode prog_1_method_38_code 24 = .ok (.aload_n 2, 1) := by decide +kernel
theorem d_G_takeOk_25 : decode prog_1_method_38_code 25 = .ok (.getfield 151, 3) := by decide +kernel
theorem d_G_takeOk_28 : decode prog_1_method_38_code 28 = .ok (.aload_n 1, 1) := by decide +kernel
theorem d_G_takeOk_29 : decode prog_1_method_38_code 29 = .ok (.getfield 220, 3) := by decide +kernel
theorem d_G_takeOk_32 : decode prog_1_method_38_code 32 = .ok (.aload_n 2, 1) := by decide +kernel
theorem d_G_takeOk_33 : decode prog_1_method_38_code 33 = .ok (.getfield 151, 3) := by decide +kernel
theorem d_G_takeOk_36 : decode prog_1_method_38_code 36 = .ok (.iaload, 1) := by decide +kernel
theorem d_G_takeOk_37 : decode prog_1_method_38_code 37 = .ok (.aload_n 2, 1) := by decide +kernel
theorem d_G_takeOk_38 : decode prog_1_method_38_code 38 = .ok (.getfield 215, 3) := by decide +kernel
theorem d_G_takeOk_41 : decode prog_1_method_38_code 41 = .ok (.getfield 73, 3) := by decide +kernel
theorem d_G_takeOk_44 : decode prog_1_method_38_code 44 = .ok (.invokestatic 91, 3) := by decide +kernel
theorem d_G_takeOk_47 : decode prog_1_method_38_code 47 = .ok (.iastore, 1) := by decide +kernel
theorem d_G_takeOk_48 : decode prog_1_method_38_code 48 = .ok (.aload_n 1, 1) := by decide +kernel
theorem d_G_takeOk_49 : decode prog_1_method_38_code 49 = .ok (.getfield 125, 3) := by decide +kernel
theorem d_G_takeOk_52 : decode prog_1_method_38_code 52 = .ok (.istore_n 3, 1) := by decide +kernel
theorem d_G_takeOk_53 : decode prog_1_method_38_code 53 = .ok (.aload_n 1, 1) := by decide +kernel
theorem d_G_takeOk_54 : decode prog_1_method_38_code 54 = .ok (.aload_n 1, 1) := by decide +kernel
theorem d_G_takeOk_55 : decode prog_1_method_38_code 55 = .ok (.aload_n 0, 1) := by decide +kernel
theorem d_G_takeOk_56 : decode prog_1_method_38_code 56 = .ok (.getfield 32, 3) := by decide +kernel
theorem d_G_takeOk_59 : decode prog_1_method_38_code 59 = .ok (.invokevirtual 223, 3) := by decide +kernel
theorem d_G_takeOk_62 : decode prog_1_method_38_code 62 = .ok (.putfield 125, 3) := by decide +kernel
theorem d_G_takeOk_65 : decode prog_1_method_38_code 65 = .ok (.aload_n 1, 1) := by decide +kernel
theorem d_G_takeOk_66 : decode prog_1_method_38_code 66 = .ok (.getfield 125, 3) := by decide +kernel
theorem d_G_takeOk_69 : decode prog_1_method_38_code 69 = .ok (.aload_n 1, 1) := by decide +kernel
theorem d_G_takeOk_70 : decode prog_1_method_38_code 70 = .ok (.getfield 55, 3) := by decide +kernel
theorem d_G_takeOk_73 : decode prog_1_method_38_code 73 = .ok (.getfield 73, 3) := by decide +kernel
theorem d_G_takeOk_76 : decode prog_1_method_38_code 76 = .ok (.invokestatic 217, 3) := by decide +kernel
theorem d_G_takeOk_79 : decode prog_1_method_38_code 79 = .ok (.istore 4, 2) := by decide +kernel
theorem d_G_takeOk_81 : decode prog_1_method_38_code 81 = .ok (.iload_n 3, 1) := by decide +kernel
theorem d_G_takeOk_82 : decode prog_1_method_38_code 82 = .ok (.iconst 1, 1) := by decide +kernel
theorem d_G_takeOk_83 : decode prog_1_method_38_code 83 = .ok (.iadd, 1) := by decide +kernel
theorem d_G_takeOk_84 : decode prog_1_method_38_code 84 = .ok (.istore 5, 2) := by decide +kernel
theorem d_G_takeOk_86 : decode prog_1_method_38_code 86 = .ok (.iload 5, 2) := by decide +kernel
theorem d_G_takeOk_88 : decode prog_1_method_38_code 88 = .ok (.iload 4, 2) := by decide +kernel
theorem d_G_takeOk_90 : decode prog_1_method_38_code 90 = .ok (.if_icmp .gt 22, 3) := by decide +kernel
theorem d_G_takeOk_93 : decode prog_1_method_38_code 93 = .ok (.aload_n 0, 1) := by decide +kernel
theorem d_G_takeOk_94 : decode prog_1_method_38_code 94 = .ok (.aload_n 1, 1) := by decide +kernel
theorem d_G_takeOk_95 : decode prog_1_method_38_code 95 = .ok (.getfield 55, 3) := by decide +kernel
theorem d_G_takeOk_98 : decode prog_1_method_38_code 98 = .ok (.iload 5, 2) := by decide +kernel
theorem d_G_takeOk_100 : decode prog_1_method_38_code 100 = .ok (.invokevirtual 132, 3) := by decide +kernel
theorem d_G_takeOk_103 : decode prog_1_method_38_code 103 = .ok (.invokevirtual 164, 3) := by decide +kernel
theorem d_G_takeOk_106 : decode prog_1_method_38_code 106 = .ok (.iinc 5 1, 3) := by decide +kernel
theorem d_G_takeOk_109 : decode prog_1_method_38_code 109 = .ok (.goto (-23), 3) := by decide +kernel
theorem d_G_takeOk_112 : decode prog_1_method_38_code 112 = .ok (.return_, 1) := by decide +kernel
theorem b_G_takeOk_0 {l : Launch} {D : va_G} {cid : Nat → ClassId} {X : CT} {Post : PT} (hX : OK l D cid m_G_takeOk X Post) : SS l D cid m_G_takeOk X 0 [o_aload 0, o_aload 1, o_callV l D cid m_G_leads 3 1] (t_if (fun x => x = 0) (FR l D cid m_G_takeOk X 19) (FR l D cid m_G_takeOk X 8)) := by
  refine SS.cons (so_aload_n hX d_G_takeOk_0 rfl) ?_
  refine SS.cons (so_aload_n hX d_G_takeOk_1 rfl) ?_
  refine SS.cons (so_callV (M' := m_G_leads) (T := T_G) hX d_G_takeOk_2 rfl k_198 k_195 k_197 k_1 k_45 pf_G_leads (by decide) (by decide +kernel) ⟨by decide, by decide⟩) ?_
  exact st_if_eq hX d_G_takeOk_5 (by decide)
theorem b_G_takeOk_8 {l : Launch} {D : va_G} {cid : Nat → ClassId} {X : CT} {Post : PT} (hX : OK l D cid m_G_takeOk X Post) : SS l D cid m_G_takeOk X 8 [o_aload 2, o_getf 1 3, o_aload 1, o_getf 2 2] (t_cmp (fun x y => x = y) (FR l D cid m_G_takeOk X 20) (FR l D cid m_G_takeOk X 19)) := by
  refine SS.cons (so_aload_n hX d_G_takeOk_8 rfl) ?_
  refine SS.cons (so_getf (C := R_E) (T := T_E) hX d_G_takeOk_9 in_E rfl (by decide) k_250) ?_
  refine SS.cons (so_aload_n hX d_G_takeOk_12 rfl) ?_
  refine SS.cons (so_getf (C := R_P) (T := T_P) hX d_G_takeOk_13 in_P rfl (by decide) k_108) ?_
  exact st_icmp_eq hX d_G_takeOk_16 (by decide)
theorem b_G_takeOk_19 {l : Launch} {D : va_G} {cid : Nat → ClassId} {X : CT} {Post : PT} (hX : OK l D cid m_G_takeOk X Post) : SS l D cid m_G_takeOk X 19 [] (t_ret Post) := by
  exact st_ret hX d_G_takeOk_19 rfl
theorem b_G_takeOk_20 {l : Launch} {D : va_G} {cid : Nat → ClassId} {X : CT} {Post : PT} (hX : OK l D cid m_G_takeOk X Post) : SS l D cid m_G_takeOk X 20 [o_aload 1, o_getf 2 7, o_aload 2, o_getf 1 1, o_aload 1, o_getf 2 7, o_aload 2, o_getf 1 1, o_ald 0, o_aload 2, o_getf 1 6, o_getf 0 1, o_callS l D cid m_J_max 2, o_ast, o_aload 1, o_getf 2 5, o_istore 3, o_aload 1, o_aload 1, o_aload 0, o_getf 3 1, o_callV l D cid m_P_ackedBy 2 1, o_put okI 2 5, o_aload 1, o_getf 2 5, o_aload 1, o_getf 2 4, o_getf 0 1, o_callS l D cid m_J_min 2, o_istore 4, o_iload 3, o_push (.int 1), o_bin (fun x y => x + y), o_istore 5] (FR l D cid m_G_takeOk X 86) := by
  refine SS.cons (so_aload_n hX d_G_takeOk_20 rfl) ?_
  refine SS.cons (so_getf (C := R_P) (T := T_P) hX d_G_takeOk_21 in_P rfl (by decide) k_121) ?_
  refine SS.cons (so_aload_n hX d_G_takeOk_24 rfl) ?_
  refine SS.cons (so_getf (C := R_E) (T := T_E) hX d_G_takeOk_25 in_E rfl (by decide) k_245) ?_
  refine SS.cons (so_aload_n hX d_G_takeOk_28 rfl) ?_
  refine SS.cons (so_getf (C := R_P) (T := T_P) hX d_G_takeOk_29 in_P rfl (by decide) k_121) ?_
  refine SS.cons (so_aload_n hX d_G_takeOk_32 rfl) ?_
  refine SS.cons (so_getf (C := R_E) (T := T_E) hX d_G_takeOk_33 in_E rfl (by decide) k_245) ?_
  refine SS.cons (so_iald hX d_G_takeOk_36) ?_
  refine SS.cons (so_aload_n hX d_G_takeOk_37 rfl) ?_
  refine SS.cons (so_getf (C := R_E) (T := T_E) hX d_G_takeOk_38 in_E rfl (by decide) k_258) ?_
  refine SS.cons (so_getf (C := R_L) (T := T_L) hX d_G_takeOk_41 in_L rfl (by decide) k_76) ?_
  refine SS.cons (so_callS (M' := m_J_max) hX d_G_takeOk_44 k_212 k_324 k_211 k_49 pf_J_max (by decide) (by decide +kernel) ⟨by decide, by decide⟩) ?_
  refine SS.cons (so_iast hX d_G_takeOk_47) ?_
  refine SS.cons (so_aload_n hX d_G_takeOk_48 rfl) ?_
  refine SS.cons (so_getf (C := R_P) (T := T_P) hX d_G_takeOk_49 in_P rfl (by decide) k_116) ?_
  refine SS.cons (so_istore_n hX d_G_takeOk_52 rfl (by decide)) ?_
  refine SS.cons (so_aload_n hX d_G_takeOk_53 rfl) ?_
  refine SS.cons (so_aload_n hX d_G_takeOk_54 rfl) ?_
  refine SS.cons (so_aload_n hX d_G_takeOk_55 rfl) ?_
  refine SS.cons (so_getf (C := R_G) (T := T_G) hX d_G_takeOk_56 in_G rfl (by decide) k_160) ?_
  refine SS.cons (so_callV (M' := m_P_ackedBy) (T := T_P) hX d_G_takeOk_59 rfl k_332 k_329 k_330 k_331 k_46 pf_P_ackedBy (by decide) (by decide +kernel) ⟨by decide, by decide⟩) ?_
  refine SS.cons (so_put (C := R_P) (T := T_P) ok_I hX d_G_takeOk_62 in_P ty_P nm_P rfl (by decide) k_116 rfl rfl) ?_
  refine SS.cons (so_aload_n hX d_G_takeOk_65 rfl) ?_
  refine SS.cons (so_getf (C := R_P) (T := T_P) hX d_G_takeOk_66 in_P rfl (by decide) k_116) ?_
  refine SS.cons (so_aload_n hX d_G_takeOk_69 rfl) ?_
  refine SS.cons (so_getf (C := R_P) (T := T_P) hX d_G_takeOk_70 in_P rfl (by decide) k_113) ?_
  refine SS.cons (so_getf (C := R_L) (T := T_L) hX d_G_takeOk_73 in_L rfl (by decide) k_76) ?_
  refine SS.cons (so_callS (M' := m_J_min) hX d_G_takeOk_76 k_323 k_321 k_322 k_49 pf_J_min (by decide) (by decide +kernel) ⟨by decide, by decide⟩) ?_
  refine SS.cons (so_istore hX d_G_takeOk_79 (by decide)) ?_
  refine SS.cons (so_iload_n hX d_G_takeOk_81 rfl) ?_
  refine SS.cons (so_iconst hX d_G_takeOk_82 (by decide)) ?_
  refine SS.cons (so_iadd hX d_G_takeOk_83) ?_
  refine SS.cons (so_istore hX d_G_takeOk_84 (by decide)) ?_
  exact SS.fall
theorem b_G_takeOk_86 {l : Launch} {D : va_G} {cid : Nat → ClassId} {X : CT} {Post : PT} (hX : OK l D cid m_G_takeOk X Post) : SS l D cid m_G_takeOk X 86 [o_iload 5, o_iload 4] (t_cmp (fun x y => y < x) (FR l D cid m_G_takeOk X 112) (FR l D cid m_G_takeOk X 93)) := by
  refine SS.cons (so_iload hX d_G_takeOk_86) ?_
  refine SS.cons (so_iload hX d_G_takeOk_88) ?_
  exact st_icmp_gt hX d_G_takeOk_90 (by decide)
theorem b_G_takeOk_93 {l : Launch} {D : va_G} {cid : Nat → ClassId} {X : CT} {Post : PT} (hX : OK l D cid m_G_takeOk X Post) : SS l D cid m_G_takeOk X 93 [o_aload 0, o_aload 1, o_getf 2 4, o_iload 5, o_callV l D cid m_L_firstEntries 0 1, o_callV l D cid m_G_answerClient 3 1, o_iinc 5 1] (FR l D cid m_G_takeOk X 86) := by
  refine SS.cons (so_aload_n hX d_G_takeOk_93 rfl) ?_
  refine SS.cons (so_aload_n hX d_G_takeOk_94 rfl) ?_
  refine SS.cons (so_getf (C := R_P) (T := T_P) hX d_G_takeOk_95 in_P rfl (by decide) k_113) ?_
  refine SS.cons (so_iload hX d_G_takeOk_98) ?_
  refine SS.cons (so_callV (M' := m_L_firstEntries) (T := T_L) hX d_G_takeOk_100 rfl k_340 k_337 k_338 k_339 k_47 pf_L_firstEntries (by decide) (by decide +kernel) ⟨by decide, by decide⟩) ?_
  refine SS.cons (so_callV (M' := m_G_answerClient) (T := T_G) hX d_G_takeOk_103 rfl k_224 k_221 k_223 k_4 k_45 pf_G_answerClient (by decide) (by decide +kernel) ⟨by decide, by decide⟩) ?_
  refine SS.cons (so_iinc hX d_G_takeOk_106 (by decide) (by decide)) ?_
  exact so_goto hX d_G_takeOk_109 (by decide)
theorem b_G_takeOk_112 {l : Launch} {D : va_G} {cid : Nat → ClassId} {X : CT} {Post : PT} (hX : OK l D cid m_G_takeOk X Post) : SS l D cid m_G_takeOk X 112 [] (t_ret Post) := by
  exact st_ret hX d_G_takeOk_112 rfl
abbrev m_G_replyIfNormal : MT := (⟨"GroupLog", "replyIfNormal", "(LGroupLog$Replica;LGroupLog$Message;I)V"⟩, prog_1_method_36_code, 4, (none : Option FieldType), { frames := 3, cells := 1, slots := 8, locals := 66 })
theorem pf_G_replyIfNormal : plainFor m_G_replyIfNormal.1 = true := by decide +kernel
theorem d_G_replyIfNormal_0 : decode prog_1_method_36_code 0 = .ok (.aload_n 1, 1) := by decide +kernel
theorem d_G_replyIfNormal_1 : decode prog_1_method_36_code 1 = .ok (.getfield 97, 3) := by decide +kernel
theorem d_G_replyIfNormal_4 : decode prog_1_method_36_code 4 = .ok (.ifCond .ne 13, 3) := by decide +kernel
theorem d_G_replyIfNormal_7 : decode prog_1_method_36_code 7 = .ok (.aload_n 0, 1) := by decide +kernel
theorem d_G_replyIfNormal_8 : decode prog_1_method_36_code 8 = .ok (.aload_n 1, 1) := by decide +kernel
theorem d_G_replyIfNormal_9 : decode prog_1_method_36_code 9 = .ok (.iload_n 3, 1) := by decide +kernel
theorem d_G_replyIfNormal_10 : decode prog_1_method_36_code 10 = .ok (.aload_n 2, 1) := by decide +kernel
theorem d_G_replyIfNormal_11 : decode prog_1_method_36_code 11 = .ok (.getfield 151, 3) := by decide +kernel
theorem d_G_replyIfNormal_14 : decode prog_1_method_36_code 14 = .ok (.invokevirtual 171, 3) := by decide +kernel
theorem d_G_replyIfNormal_17 : decode prog_1_method_36_code 17 = .ok (.return_, 1) := by decide +kernel
theorem b_G_replyIfNormal_0 {l : Launch} {D : va_G} {cid : Nat → ClassId} {X : CT} {Post : PT} (hX : OK l D cid m_G_replyIfNormal X Post) : SS l D cid m_G_replyIfNormal X 0 [o_aload 1, o_getf 2 1] (t_if (fun x => ¬ x = 0) (FR l D cid m_G_replyIfNormal X 17) (FR l D cid m_G_replyIfNormal X 7)) := by
  refine SS.cons (so_aload_n hX d_G_replyIfNormal_0 rfl) ?_
  refine SS.cons (so_getf (C := R_P) (T := T_P) hX d_G_replyIfNormal_1 in_P rfl (by decide) k_105) ?_
  exact st_if_ne hX d_G_replyIfNormal_4 (by decide)
theorem b_G_replyIfNormal_7 {l : Launch} {D : va_G} {cid : Nat → ClassId} {X : CT} {Post : PT} (hX : OK l D cid m_G_replyIfNormal X Post) : SS l D cid m_G_replyIfNormal X 7 [o_aload 0, o_aload 1, o_iload 3, o_aload 2, o_getf 1 1, o_callV l D cid m_G_send 3 3] (FR l D cid m_G_replyIfNormal X 17) := by
  refine SS.cons (so_aload_n hX d_G_replyIfNormal_7 rfl) ?_
  refine SS.cons (so_aload_n hX d_G_replyIfNormal_8 rfl) ?_
  refine SS.cons (so_iload_n hX d_G_replyIfNormal_9 rfl) ?_
  refine SS.cons (so_aload_n hX d_G_replyIfNormal_10 rfl) ?_
  refine SS.cons (so_getf (C := R_E) (T := T_E) hX d_G_replyIfNormal_11 in_E rfl (by decide) k_245) ?_
  refine SS.cons (so_callV (M' := m_G_send) (T := T_G) hX d_G_replyIfNormal_14 rfl k_236 k_233 k_235 k_6 k_45 pf_G_send (by decide) (by decide +kernel) ⟨by decide, by decide⟩) ?_
  exact SS.fall
theorem b_G_replyIfNormal_17 {l : Launch} {D : va_G} {cid : Nat → ClassId} {X : CT} {Post : PT} (hX : OK l D cid m_G_replyIfNormal X Post) : SS l D cid m_G_replyIfNormal X 17 [] (t_ret Post) := by
  exact st_ret hX d_G_replyIfNormal_17 rfl
abbrev m_G_takeState : MT := (⟨"GroupLog", "takeState", "(LGroupLog$Replica;LGroupLog$Message;)V"⟩, prog_1_method_39_code, 4, (none : Option FieldType), { frames := 3, cells := 1, slots := 8, locals := 66 })
theorem pf_G_takeState : plainFor m_G_takeState.1 = true := by decide +kernel
theorem d_G_takeState_0 : decode prog_1_method_39_code 0 = .ok (.aload_n 0, 1) := by decide +kernel
theorem d_G_takeState_1 : decode prog_1_method_39_code 1 = .ok (.aload_n 2, 1) := by decide +kernel
theorem d_G_takeState_2 : decode prog_1_method_39_code 2 = .ok (.getfield 157, 3) := by decide +kernel
theorem d_G_takeState_5 : decode prog_1_method_39_code 5 = .ok (.invokevirtual 161, 3) := by decide +kernel
theorem d_G_takeState_8 : decode prog_1_method_39_code 8 = .ok (.aload_n 1, 1) := by decide +kernel
theorem d_G_takeState_9 : decode prog_1_method_39_code 9 = .ok (.getfield 122, 3) := by decide +kernel
theorem d_G_takeState_12 : decode prog_1_method_39_code 12 = .ok (.if_icmp .ne 4, 3) := by decide +kernel
theorem d_G_takeState_15 : decode prog_1_method_39_code 15 = .ok (.return_, 1) := by decide +kernel
theorem d_G_takeState_16 : decode prog_1_method_39_code 16 = .ok (.aload_n 1, 1) := by decide +kernel
theorem d_G_takeState_17 : decode prog_1_method_39_code 17 = .ok (.getfield 97, 3) := by decide +kernel
theorem d_G_takeState_20 : decode prog_1_method_39_code 20 = .ok (.iconst 1, 1) := by decide +kernel
theorem d_G_takeState_21 : decode prog_1_method_39_code 21 = .ok (.if_icmp .eq 20, 3) := by decide +kernel
theorem d_G_takeState_24 : decode prog_1_method_39_code 24 = .ok (.aload_n 2, 1) := by decide +kernel
theorem d_G_takeState_25 : decode prog_1_method_39_code 25 = .ok (.getfield 215, 3) := by decide +kernel
theorem d_G_takeState_28 : decode prog_1_method_39_code 28 = .ok (.getfield 73, 3) := by decide +kernel
theorem d_G_takeState_31 : decode prog_1_method_39_code 31 = .ok (.aload_n 1, 1) := by decide +kernel
theorem d_G_takeState_32 : decode prog_1_method_39_code 32 = .ok (.getfield 55, 3) := by decide +kernel
theorem d_G_takeState_35 : decode prog_1_method_39_code 35 = .ok (.getfield 73, 3) := by decide +kernel
theorem d_G_takeState_38 : decode prog_1_method_39_code 38 = .ok (.if_icmp .le 7, 3) := by decide +kernel
theorem d_G_takeState_41 : decode prog_1_method_39_code 41 = .ok (.iconst 1, 1) := by decide +kernel
theorem d_G_takeState_42 : decode prog_1_method_39_code 42 = .ok (.goto 4, 3) := by decide +kernel
theorem d_G_takeState_45 : decode prog_1_method_39_code 45 = .ok (.iconst 0, 1) := by decide +kernel
theorem d_G_takeState_46 : decode prog_1_method_39_code 46 = .ok (.istore_n 3, 1) := by decide +kernel
theorem d_G_takeState_47 : decode prog_1_method_39_code 47 = .ok (.aload_n 2, 1) := by decide +kernel
theorem d_G_takeState_48 : decode prog_1_method_39_code 48 = .ok (.getfield 157, 3) := by decide +kernel
theorem d_G_takeState_51 : decode prog_1_method_39_code 51 = .ok (.aload_n 1, 1) := by decide +kernel
theorem d_G_takeState_52 : decode prog_1_method_39_code 52 = .ok (.getfield 100, 3) := by decide +kernel
theorem d_G_takeState_55 : decode prog_1_method_39_code 55 = .ok (.if_icmp .gt 18, 3) := by decide +kernel
theorem d_G_takeState_58 : decode prog_1_method_39_code 58 = .ok (.aload_n 2, 1) := by decide +kernel
theorem d_G_takeState_59 : decode prog_1_method_39_code 59 = .ok (.getfield 157, 3) := by decide +kernel
theorem d_G_takeState_62 : decode prog_1_method_39_code 62 = .ok (.aload_n 1, 1) := by decide +kernel
theorem d_G_takeState_63 : decode prog_1_method_39_code 63 = .ok (.getfield 100, 3) := by decide +kernel
theorem d_G_takeState_66 : decode prog_1_method_39_code 66 = .ok (.if_icmp .ne 44, 3) := by decide +kernel
theorem d_G_takeState_69 : decode prog_1_method_39_code 69 = .ok (.iload_n 3, 1) := by decide +kernel
theorem d_G_takeState_70 : decode prog_1_method_39_code 70 = .ok (.ifCond .eq 40, 3) := by decide +kernel
theorem d_G_takeState_73 : decode prog_1_method_39_code 73 = .ok (.aload_n 1, 1) := by decide +kernel
theorem d_G_takeState_74 : decode prog_1_method_39_code 74 = .ok (.aload_n 2, 1) := by decide +kernel
theorem d_G_takeState_75 : decode prog_1_method_39_code 75 = .ok (.getfield 157, 3) := by decide +kernel
theorem d_G_takeState_78 : decode prog_1_method_39_code 78 = .ok (.aload_n 2, 1) := by decide +kernel
theorem d_G_takeState_79 : decode prog_1_method_39_code 79 = .ok (.getfield 215, 3) := by decide +kernel
theorem d_G_takeState_82 : decode prog_1_method_39_code 82 = .ok (.aload_n 1, 1) := by decide +kernel
theorem d_G_takeState_83 : decode prog_1_method_39_code 83 = .ok (.getfield 125, 3) := by decide +kernel
theorem d_G_takeState_86 : decode prog_1_method_39_code 86 = .ok (.aload_n 2, 1) := by decide +kernel
theorem d_G_takeState_87 : decode prog_1_method_39_code 87 = .ok (.getfield 216, 3) := by decide +kernel
theorem d_G_takeState_90 : decode prog_1_method_39_code 90 = .ok (.invokestatic 91, 3) := by decide +kernel
theorem d_G_takeState_93 : decode prog_1_method_39_code 93 = .ok (.invokevirtual 226, 3) := by decide +kernel
theorem d_G_takeState_96 : decode prog_1_method_39_code 96 = .ok (.aload_n 0, 1) := by decide +kernel
theorem d_G_takeState_97 : decode prog_1_method_39_code 97 = .ok (.aload_n 1, 1) := by decide +kernel
theorem d_G_takeState_98 : decode prog_1_method_39_code 98 = .ok (.iconst 2, 1) := by decide +kernel
theorem d_G_takeState_99 : decode prog_1_method_39_code 99 = .ok (.aload_n 0, 1) := by decide +kernel
theorem d_G_takeState_100 : decode prog_1_method_39_code 100 = .ok (.aload_n 2, 1) := by decide +kernel
theorem d_G_takeState_101 : decode prog_1_method_39_code 101 = .ok (.getfield 157, 3) := by decide +kernel
theorem d_G_takeState_104 : decode prog_1_method_39_code 104 = .ok (.invokevirtual 161, 3) := by decide +kernel
theorem d_G_takeState_107 : decode prog_1_method_39_code 107 = .ok (.invokevirtual 171, 3) := by decide +kernel
theorem d_G_takeState_110 : decode prog_1_method_39_code 110 = .ok (.return_, 1) := by decide +kernel
theorem b_G_takeState_0 {l : Launch} {D : va_G} {cid : Nat → ClassId} {X : CT} {Post : PT} (hX : OK l D cid m_G_takeState X Post) : SS l D cid m_G_takeState X 0 [o_aload 0, o_aload 2, o_getf 1 3, o_callV l D cid m_G_primaryOf 3 1, o_aload 1, o_getf 2 0] (t_cmp (fun x y => ¬ x = y) (FR l D cid m_G_takeState X 16) (FR l D cid m_G_takeState X 15)) := by
  refine SS.cons (so_aload_n hX d_G_takeState_0 rfl) ?_
  refine SS.cons (so_aload_n hX d_G_takeState_1 rfl) ?_
  refine SS.cons (so_getf (C := R_E) (T := T_E) hX d_G_takeState_2 in_E rfl (by decide) k_250) ?_
  refine SS.cons (so_callV (M' := m_G_primaryOf) (T := T_G) hX d_G_takeState_5 rfl k_202 k_199 k_201 k_2 k_45 pf_G_primaryOf (by decide) (by decide +kernel) ⟨by decide, by decide⟩) ?_
  refine SS.cons (so_aload_n hX d_G_takeState_8 rfl) ?_
  refine SS.cons (so_getf (C := R_P) (T := T_P) hX d_G_takeState_9 in_P rfl (by decide) k_103) ?_
  exact st_icmp_ne hX d_G_takeState_12 (by decide)
theorem b_G_takeState_15 {l : Launch} {D : va_G} {cid : Nat → ClassId} {X : CT} {Post : PT} (hX : OK l D cid m_G_takeState X Post) : SS l D cid m_G_takeState X 15 [] (t_ret Post) := by
  exact st_ret hX d_G_takeState_15 rfl
theorem b_G_takeState_16 {l : Launch} {D : va_G} {cid : Nat → ClassId} {X : CT} {Post : PT} (hX : OK l D cid m_G_takeState X Post) : SS l D cid m_G_takeState X 16 [o_aload 1, o_getf 2 1, o_push (.int 1)] (t_cmp (fun x y => x = y) (FR l D cid m_G_takeState X 41) (FR l D cid m_G_takeState X 24)) := by
  refine SS.cons (so_aload_n hX d_G_takeState_16 rfl) ?_
  refine SS.cons (so_getf (C := R_P) (T := T_P) hX d_G_takeState_17 in_P rfl (by decide) k_105) ?_
  refine SS.cons (so_iconst hX d_G_takeState_20 (by decide)) ?_
  exact st_icmp_eq hX d_G_takeState_21 (by decide)
theorem b_G_takeState_24 {l : Launch} {D : va_G} {cid : Nat → ClassId} {X : CT} {Post : PT} (hX : OK l D cid m_G_takeState X Post) : SS l D cid m_G_takeState X 24 [o_aload 2, o_getf 1 6, o_getf 0 1, o_aload 1, o_getf 2 4, o_getf 0 1] (t_cmp (fun x y => x ≤ y) (FR l D cid m_G_takeState X 45) (FR l D cid m_G_takeState X 41)) := by
  refine SS.cons (so_aload_n hX d_G_takeState_24 rfl) ?_
  refine SS.cons (so_getf (C := R_E) (T := T_E) hX d_G_takeState_25 in_E rfl (by decide) k_258) ?_
  refine SS.cons (so_getf (C := R_L) (T := T_L) hX d_G_takeState_28 in_L rfl (by decide) k_76) ?_
  refine SS.cons (so_aload_n hX d_G_takeState_31 rfl) ?_
  refine SS.cons (so_getf (C := R_P) (T := T_P) hX d_G_takeState_32 in_P rfl (by decide) k_113) ?_
  refine SS.cons (so_getf (C := R_L) (T := T_L) hX d_G_takeState_35 in_L rfl (by decide) k_76) ?_
  exact st_icmp_le hX d_G_takeState_38 (by decide)
theorem b_G_takeState_41 {l : Launch} {D : va_G} {cid : Nat → ClassId} {X : CT} {Post : PT} (hX : OK l D cid m_G_takeState X Post) : SS l D cid m_G_takeState X 41 [o_push (.int 1)] (FR l D cid m_G_takeState X 46) := by
  refine SS.cons (so_iconst hX d_G_takeState_41 (by decide)) ?_
  exact so_goto hX d_G_takeState_42 (by decide)
theorem b_G_takeState_45 {l : Launch} {D : va_G} {cid : Nat → ClassId} {X : CT} {Post : PT} (hX : OK l D cid m_G_takeState X Post) : SS l D cid m_G_takeState X 45 [o_push (.int 0)] (FR l D cid m_G_takeState X 46) := by
  refine SS.cons (so_iconst hX d_G_takeState_45 (by decide)) ?_
  exact SS.fall
theorem b_G_takeState_46 {l : Launch} {D : va_G} {cid : Nat → ClassId} {X : CT} {Post : PT} (hX : OK l D cid m_G_takeState X Post) : SS l D cid m_G_takeState X 46 [o_istore 3, o_aload 2, o_getf 1 3, o_aload 1, o_getf 2 2] (t_cmp (fun x y => y < x) (FR l D cid m_G_takeState X 73) (FR l D cid m_G_takeState X 58)) := by
  refine SS.cons (so_istore_n hX d_G_takeState_46 rfl (by decide)) ?_
  refine SS.cons (so_aload_n hX d_G_takeState_47 rfl) ?_
  refine SS.cons (so_getf (C := R_E) (T := T_E) hX d_G_takeState_48 in_E rfl (by decide) k_250) ?_
  refine SS.cons (so_aload_n hX d_G_takeState_51 rfl) ?_
  refine SS.cons (so_getf (C := R_P) (T := T_P) hX d_G_takeState_52 in_P rfl (by decide) k_108) ?_
  exact st_icmp_gt hX d_G_takeState_55 (by decide)
theorem b_G_takeState_58 {l : Launch} {D : va_G} {cid : Nat → ClassId} {X : CT} {Post : PT} (hX : OK l D cid m_G_takeState X Post) : SS l D cid m_G_takeState X 58 [o_aload 2, o_getf 1 3, o_aload 1, o_getf 2 2] (t_cmp (fun x y => ¬ x = y) (FR l D cid m_G_takeState X 110) (FR l D cid m_G_takeState X 69)) := by
  refine SS.cons (so_aload_n hX d_G_takeState_58 rfl) ?_
  refine SS.cons (so_getf (C := R_E) (T := T_E) hX d_G_takeState_59 in_E rfl (by decide) k_250) ?_
  refine SS.cons (so_aload_n hX d_G_takeState_62 rfl) ?_
  refine SS.cons (so_getf (C := R_P) (T := T_P) hX d_G_takeState_63 in_P rfl (by decide) k_108) ?_
  exact st_icmp_ne hX d_G_takeState_66 (by decide)
theorem b_G_takeState_69 {l : Launch} {D : va_G} {cid : Nat → ClassId} {X : CT} {Post : PT} (hX : OK l D cid m_G_takeState X Post) : SS l D cid m_G_takeState X 69 [o_iload 3] (t_if (fun x => x = 0) (FR l D cid m_G_takeState X 110) (FR l D cid m_G_takeState X 73)) := by
  refine SS.cons (so_iload_n hX d_G_takeState_69 rfl) ?_
  exact st_if_eq hX d_G_takeState_70 (by decide)
theorem b_G_takeState_73 {l : Launch} {D : va_G} {cid : Nat → ClassId} {X : CT} {Post : PT} (hX : OK l D cid m_G_takeState X Post) : SS l D cid m_G_takeState X 73 [o_aload 1, o_aload 2, o_getf 1 3, o_aload 2, o_getf 1 6, o_aload 1, o_getf 2 5, o_aload 2, o_getf 1 7, o_callS l D cid m_J_max 2, o_callV l D cid m_P_becomeNormal 2 3, o_aload 0, o_aload 1, o_push (.int 2), o_aload 0, o_aload 2, o_getf 1 3, o_callV l D cid m_G_primaryOf 3 1, o_callV l D cid m_G_send 3 3] (FR l D cid m_G_takeState X 110) := by
  refine SS.cons (so_aload_n hX d_G_takeState_73 rfl) ?_
  refine SS.cons (so_aload_n hX d_G_takeState_74 rfl) ?_
  refine SS.cons (so_getf (C := R_E) (T := T_E) hX d_G_takeState_75 in_E rfl (by decide) k_250) ?_
  refine SS.cons (so_aload_n hX d_G_takeState_78 rfl) ?_
  refine SS.cons (so_getf (C := R_E) (T := T_E) hX d_G_takeState_79 in_E rfl (by decide) k_258) ?_
  refine SS.cons (so_aload_n hX d_G_takeState_82 rfl) ?_
  refine SS.cons (so_getf (C := R_P) (T := T_P) hX d_G_takeState_83 in_P rfl (by decide) k_116) ?_
  refine SS.cons (so_aload_n hX d_G_takeState_86 rfl) ?_
  refine SS.cons (so_getf (C := R_E) (T := T_E) hX d_G_takeState_87 in_E rfl (by decide) k_261) ?_
  refine SS.cons (so_callS (M' := m_J_max) hX d_G_takeState_90 k_212 k_324 k_211 k_49 pf_J_max (by decide) (by decide +kernel) ⟨by decide, by decide⟩) ?_
  refine SS.cons (so_callV (M' := m_P_becomeNormal) (T := T_P) hX d_G_takeState_93 rfl k_352 k_349 k_350 k_351 k_46 pf_P_becomeNormal (by decide) (by decide +kernel) ⟨by decide, by decide⟩) ?_
  refine SS.cons (so_aload_n hX d_G_takeState_96 rfl) ?_
  refine SS.cons (so_aload_n hX d_G_takeState_97 rfl) ?_
  refine SS.cons (so_iconst hX d_G_takeState_98 (by decide)) ?_
  refine SS.cons (so_aload_n hX d_G_takeState_99 rfl) ?_
  refine SS.cons (so_aload_n hX d_G_takeState_100 rfl) ?_
  refine SS.cons (so_getf (C := R_E) (T := T_E) hX d_G_takeState_101 in_E rfl (by decide) k_250) ?_
  refine SS.cons (so_callV (M' := m_G_primaryOf) (T := T_G) hX d_G_takeState_104 rfl k_202 k_199 k_201 k_2 k_45 pf_G_primaryOf (by decide) (by decide +kernel) ⟨by decide, by decide⟩) ?_
  refine SS.cons (so_callV (M' := m_G_send) (T := T_G) hX d_G_takeState_107 rfl k_236 k_233 k_235 k_6 k_45 pf_G_send (by decide) (by decide +kernel) ⟨by decide, by decide⟩) ?_
  exact SS.fall
theorem b_G_takeState_110 {l : Launch} {D : va_G} {cid : Nat → ClassId} {X : CT} {Post : PT} (hX : OK l D cid m_G_takeState X Post) : SS l D cid m_G_takeState X 110 [] (t_ret Post) := by
  exact st_ret hX d_G_takeState_110 rfl
abbrev m_G_startChanging : MT := (⟨"GroupLog", "startChanging", "(LGroupLog$Replica;I)V"⟩, prog_1_method_40_code, 3, (none : Option FieldType), { frames := 4, cells := 5, slots := 40, locals := 89 })
theorem pf_G_startChanging : plainFor m_G_startChanging.1 = true := by decide +kernel
theorem d_G_startChanging_0 : decode prog_1_method_40_code 0 = .ok (.aload_n 1, 1) := by decide +kernel
theorem d_G_startChanging_1 : decode prog_1_method_40_code 1 = .ok (.iconst 1, 1) := by decide +kernel
theorem d_G_startChanging_2 : decode prog_1_method_40_code 2 = .ok (.putfield 97, 3) := by decide +kernel
theorem d_G_startChanging_5 : decode prog_1_method_40_code 5 = .ok (.aload_n 1, 1) := by decide +kernel
theorem d_G_startChanging_6 : decode prog_1_method_40_code 6 = .ok (.iload_n 2, 1) := by decide +kernel
theorem d_G_startChanging_7 : decode prog_1_method_40_code 7 = .ok (.putfield 100, 3) := by decide +kernel
theorem d_G_startChanging_10 : decode prog_1_method_40_code 10 = .ok (.aload_n 1, 1) := by decide +kernel
theorem d_G_startChanging_11 : decode prog_1_method_40_code 11 = .ok (.invokevirtual 230, 3) := by decide +kernel
theorem d_G_startChanging_14 : decode prog_1_method_40_code 14 = .ok (.aload_n 1, 1) := by decide +kernel
theorem d_G_startChanging_15 : decode prog_1_method_40_code 15 = .ok (.iconst 0, 1) := by decide +kernel
theorem d_G_startChanging_16 : decode prog_1_method_40_code 16 = .ok (.putfield 233, 3) := by decide +kernel
theorem d_G_startChanging_19 : decode prog_1_method_40_code 19 = .ok (.aload_n 0, 1) := by decide +kernel
theorem d_G_startChanging_20 : decode prog_1_method_40_code 20 = .ok (.aload_n 1, 1) := by decide +kernel
theorem d_G_startChanging_21 : decode prog_1_method_40_code 21 = .ok (.iconst 5, 1) := by decide +kernel
theorem d_G_startChanging_22 : decode prog_1_method_40_code 22 = .ok (.invokevirtual 79, 3) := by decide +kernel
theorem d_G_startChanging_25 : decode prog_1_method_40_code 25 = .ok (.return_, 1) := by decide +kernel
theorem b_G_startChanging_0 {l : Launch} {D : va_G} {cid : Nat → ClassId} {X : CT} {Post : PT} (hX : OK l D cid m_G_startChanging X Post) : SS l D cid m_G_startChanging X 0 [o_aload 1, o_push (.int 1), o_put okI 2 1, o_aload 1, o_iload 2, o_put okI 2 2, o_aload 1, o_callV l D cid m_P_forgetKept 2 0, o_aload 1, o_push (.int 0), o_put okZ 2 8, o_aload 0, o_aload 1, o_push (.int 5), o_callV l D cid m_G_sendToAll 3 2] (t_ret Post) := by
  refine SS.cons (so_aload_n hX d_G_startChanging_0 rfl) ?_
  refine SS.cons (so_iconst hX d_G_startChanging_1 (by decide)) ?_
  refine SS.cons (so_put (C := R_P) (T := T_P) ok_I hX d_G_startChanging_2 in_P ty_P nm_P rfl (by decide) k_105 rfl rfl) ?_
  refine SS.cons (so_aload_n hX d_G_startChanging_5 rfl) ?_
  refine SS.cons (so_iload_n hX d_G_startChanging_6 rfl) ?_
  refine SS.cons (so_put (C := R_P) (T := T_P) ok_I hX d_G_startChanging_7 in_P ty_P nm_P rfl (by decide) k_108 rfl rfl) ?_
  refine SS.cons (so_aload_n hX d_G_startChanging_10 rfl) ?_
  refine SS.cons (so_callV (M' := m_P_forgetKept) (T := T_P) hX d_G_startChanging_11 rfl k_356 k_365 k_354 k_355 k_46 pf_P_forgetKept (by decide) (by decide +kernel) ⟨by decide, by decide⟩) ?_
  refine SS.cons (so_aload_n hX d_G_startChanging_14 rfl) ?_
  refine SS.cons (so_iconst hX d_G_startChanging_15 (by decide)) ?_
  refine SS.cons (so_put (C := R_P) (T := T_P) ok_Z hX d_G_startChanging_16 in_P ty_P nm_P rfl (by decide) k_123 rfl rfl) ?_
  refine SS.cons (so_aload_n hX d_G_startChanging_19 rfl) ?_
  refine SS.cons (so_aload_n hX d_G_startChanging_20 rfl) ?_
  refine SS.cons (so_iconst hX d_G_startChanging_21 (by decide)) ?_
  refine SS.cons (so_callV (M' := m_G_sendToAll) (T := T_G) hX d_G_startChanging_22 rfl k_232 k_229 k_231 k_5 k_45 pf_G_sendToAll (by decide) (by decide +kernel) ⟨by decide, by decide⟩) ?_
  exact st_ret hX d_G_startChanging_25 rfl
abbrev m_G_joinChange : MT := (⟨"GroupLog", "joinChange", "(LGroupLog$Replica;LGroupLog$Message;)Z"⟩, prog_1_method_41_code, 3, (some FieldType.boolean), { frames := 5, cells := 5, slots := 40, locals := 111 })
theorem pf_G_joinChange : plainFor m_G_joinChange.1 = true := by decide +kernel
theorem d_G_joinChange_0 : decode prog_1_method_41_code 0 = .ok (.aload_n 2, 1) := by decide +kernel
theorem d_G_joinChange_1 : decode prog_1_method_41_code 1 = .ok (.getfield 157, 3) := by decide +kernel
theorem d_G_joinChange_4 : decode prog_1_method_41_code 4 = .ok (.aload_n 1, 1) := by decide +kernel
theorem d_G_joinChange_5 : decode prog_1_method_41_code 5 = .ok (.getfield 100, 3) := by decide +kernel
theorem d_G_joinChange_8 : decode prog_1_method_41_code 8 = .ok (.if_icmp .le 12, 3) := by decide +kernel
theorem d_G_joinChange_11 : decode prog_1_method_41_code 11 = .ok (.aload_n 0, 1) := by decide +kernel
theorem d_G_joinChange_12 : decode prog_1_method_41_code 12 = .ok (.aload_n 1, 1) := by decide +kernel
theorem d_G_joinChange_13 : decode prog_1_method_41_code 13 = .ok (.aload_n 2, 1) := by decide +kernel
theorem d_G_joinChange_14 : decode prog_1_method_41_code 14 = .ok (.getfield 157, 3) := by decide +kernel
theorem d_G_joinChange_17 : decode prog_1_method_41_code 17 = .ok (.invokevirtual 103, 3) := by decide +kernel
theorem d_G_joinChange_20 : decode prog_1_method_41_code 20 = .ok (.aload_n 2, 1) := by decide +kernel
theorem d_G_joinChange_21 : decode prog_1_method_41_code 21 = .ok (.getfield 157, 3) := by decide +kernel
theorem d_G_joinChange_24 : decode prog_1_method_41_code 24 = .ok (.aload_n 1, 1) := by decide +kernel
theorem d_G_joinChange_25 : decode prog_1_method_41_code 25 = .ok (.getfield 100, 3) := by decide +kernel
theorem d_G_joinChange_28 : decode prog_1_method_41_code 28 = .ok (.if_icmp .ne 15, 3) := by decide +kernel
theorem d_G_joinChange_31 : decode prog_1_method_41_code 31 = .ok (.aload_n 1, 1) := by decide +kernel
theorem d_G_joinChange_32 : decode prog_1_method_41_code 32 = .ok (.getfield 97, 3) := by decide +kernel
theorem d_G_joinChange_35 : decode prog_1_method_41_code 35 = .ok (.iconst 1, 1) := by decide +kernel
theorem d_G_joinChange_36 : decode prog_1_method_41_code 36 = .ok (.if_icmp .ne 7, 3) := by decide +kernel
theorem d_G_joinChange_39 : decode prog_1_method_41_code 39 = .ok (.iconst 1, 1) := by decide +kernel
theorem d_G_joinChange_40 : decode prog_1_method_41_code 40 = .ok (.goto 4, 3) := by decide +kernel
theorem d_G_joinChange_43 : decode prog_1_method_41_code 43 = .ok (.iconst 0, 1) := by decide +kernel
theorem d_G_joinChange_44 : decode prog_1_method_41_code 44 = .ok (.ireturn, 1) := by decide +kernel
theorem b_G_joinChange_0 {l : Launch} {D : va_G} {cid : Nat → ClassId} {X : CT} {Post : PT} (hX : OK l D cid m_G_joinChange X Post) : SS l D cid m_G_joinChange X 0 [o_aload 2, o_getf 1 3, o_aload 1, o_getf 2 2] (t_cmp (fun x y => x ≤ y) (FR l D cid m_G_joinChange X 20) (FR l D cid m_G_joinChange X 11)) := by
  refine SS.cons (so_aload_n hX d_G_joinChange_0 rfl) ?_
  refine SS.cons (so_getf (C := R_E) (T := T_E) hX d_G_joinChange_1 in_E rfl (by decide) k_250) ?_
  refine SS.cons (so_aload_n hX d_G_joinChange_4 rfl) ?_
  refine SS.cons (so_getf (C := R_P) (T := T_P) hX d_G_joinChange_5 in_P rfl (by decide) k_108) ?_
  exact st_icmp_le hX d_G_joinChange_8 (by decide)
theorem b_G_joinChange_11 {l : Launch} {D : va_G} {cid : Nat → ClassId} {X : CT} {Post : PT} (hX : OK l D cid m_G_joinChange X Post) : SS l D cid m_G_joinChange X 11 [o_aload 0, o_aload 1, o_aload 2, o_getf 1 3, o_callV l D cid m_G_startChanging 3 2] (FR l D cid m_G_joinChange X 20) := by
  refine SS.cons (so_aload_n hX d_G_joinChange_11 rfl) ?_
  refine SS.cons (so_aload_n hX d_G_joinChange_12 rfl) ?_
  refine SS.cons (so_aload_n hX d_G_joinChange_13 rfl) ?_
  refine SS.cons (so_getf (C := R_E) (T := T_E) hX d_G_joinChange_14 in_E rfl (by decide) k_250) ?_
  refine SS.cons (so_callV (M' := m_G_startChanging) (T := T_G) hX d_G_joinChange_17 rfl k_364 k_361 k_363 k_16 k_45 pf_G_startChanging (by decide) (by decide +kernel) ⟨by decide, by decide⟩) ?_
  exact SS.fall
theorem b_G_joinChange_20 {l : Launch} {D : va_G} {cid : Nat → ClassId} {X : CT} {Post : PT} (hX : OK l D cid m_G_joinChange X Post) : SS l D cid m_G_joinChange X 20 [o_aload 2, o_getf 1 3, o_aload 1, o_getf 2 2] (t_cmp (fun x y => ¬ x = y) (FR l D cid m_G_joinChange X 43) (FR l D cid m_G_joinChange X 31)) := by
  refine SS.cons (so_aload_n hX d_G_joinChange_20 rfl) ?_
  refine SS.cons (so_getf (C := R_E) (T := T_E) hX d_G_joinChange_21 in_E rfl (by decide) k_250) ?_
  refine SS.cons (so_aload_n hX d_G_joinChange_24 rfl) ?_
  refine SS.cons (so_getf (C := R_P) (T := T_P) hX d_G_joinChange_25 in_P rfl (by decide) k_108) ?_
  exact st_icmp_ne hX d_G_joinChange_28 (by decide)
theorem b_G_joinChange_31 {l : Launch} {D : va_G} {cid : Nat → ClassId} {X : CT} {Post : PT} (hX : OK l D cid m_G_joinChange X Post) : SS l D cid m_G_joinChange X 31 [o_aload 1, o_getf 2 1, o_push (.int 1)] (t_cmp (fun x y => ¬ x = y) (FR l D cid m_G_joinChange X 43) (FR l D cid m_G_joinChange X 39)) := by
  refine SS.cons (so_aload_n hX d_G_joinChange_31 rfl) ?_
  refine SS.cons (so_getf (C := R_P) (T := T_P) hX d_G_joinChange_32 in_P rfl (by decide) k_105) ?_
  refine SS.cons (so_iconst hX d_G_joinChange_35 (by decide)) ?_
  exact st_icmp_ne hX d_G_joinChange_36 (by decide)
theorem b_G_joinChange_39 {l : Launch} {D : va_G} {cid : Nat → ClassId} {X : CT} {Post : PT} (hX : OK l D cid m_G_joinChange X Post) : SS l D cid m_G_joinChange X 39 [o_push (.int 1)] (FR l D cid m_G_joinChange X 44) := by
  refine SS.cons (so_iconst hX d_G_joinChange_39 (by decide)) ?_
  exact so_goto hX d_G_joinChange_40 (by decide)
theorem b_G_joinChange_43 {l : Launch} {D : va_G} {cid : Nat → ClassId} {X : CT} {Post : PT} (hX : OK l D cid m_G_joinChange X Post) : SS l D cid m_G_joinChange X 43 [o_push (.int 0)] (FR l D cid m_G_joinChange X 44) := by
  refine SS.cons (so_iconst hX d_G_joinChange_43 (by decide)) ?_
  exact SS.fall
theorem b_G_joinChange_44 {l : Launch} {D : va_G} {cid : Nat → ClassId} {X : CT} {Post : PT} (hX : OK l D cid m_G_joinChange X Post) : SS l D cid m_G_joinChange X 44 [] (t_zret Post) := by
  exact st_zret hX d_G_joinChange_44 rfl
abbrev m_G_keepVote : MT := (⟨"GroupLog", "keepVote", "(LGroupLog$Replica;LGroupLog$Message;)V"⟩, prog_1_method_42_code, 4, (none : Option FieldType), { frames := 3, cells := 1, slots := 8, locals := 66 })
theorem pf_G_keepVote : plainFor m_G_keepVote.1 = true := by decide +kernel
theorem d_G_keepVote_0 : decode prog_1_method_42_code 0 = .ok (.aload_n 1, 1) := by decide +kernel
theorem d_G_keepVote_1 : decode prog_1_method_42_code 1 = .ok (.getfield 237, 3) := by decide +kernel
theorem d_G_keepVote_4 : decode prog_1_method_42_code 4 = .ok (.aload_n 2, 1) := by decide +kernel
theorem d_G_keepVote_5 : decode prog_1_method_42_code 5 = .ok (.getfield 151, 3) := by decide +kernel
theorem d_G_keepVote_8 : decode prog_1_method_42_code 8 = .ok (.aload_n 2, 1) := by decide +kernel
theorem d_G_keepVote_9 : decode prog_1_method_42_code 9 = .ok (.aastore, 1) := by decide +kernel
theorem d_G_keepVote_10 : decode prog_1_method_42_code 10 = .ok (.aload_n 0, 1) := by decide +kernel
theorem d_G_keepVote_11 : decode prog_1_method_42_code 11 = .ok (.aload_n 1, 1) := by decide +kernel
theorem d_G_keepVote_12 : decode prog_1_method_42_code 12 = .ok (.getfield 100, 3) := by decide +kernel
theorem d_G_keepVote_15 : decode prog_1_method_42_code 15 = .ok (.invokevirtual 161, 3) := by decide +kernel
theorem d_G_keepVote_18 : decode prog_1_method_42_code 18 = .ok (.istore_n 3, 1) := by decide +kernel
theorem d_G_keepVote_19 : decode prog_1_method_42_code 19 = .ok (.aload_n 1, 1) := by decide +kernel
theorem d_G_keepVote_20 : decode prog_1_method_42_code 20 = .ok (.getfield 122, 3) := by decide +kernel
theorem d_G_keepVote_23 : decode prog_1_method_42_code 23 = .ok (.iload_n 3, 1) := by decide +kernel
theorem d_G_keepVote_24 : decode prog_1_method_42_code 24 = .ok (.if_icmp .eq 37, 3) := by decide +kernel
theorem d_G_keepVote_27 : decode prog_1_method_42_code 27 = .ok (.aload_n 1, 1) := by decide +kernel
theorem d_G_keepVote_28 : decode prog_1_method_42_code 28 = .ok (.getfield 233, 3) := by decide +kernel
theorem d_G_keepVote_31 : decode prog_1_method_42_code 31 = .ok (.ifCond .ne 30, 3) := by decide +kernel
theorem d_G_keepVote_34 : decode prog_1_method_42_code 34 = .ok (.aload_n 1, 1) := by decide +kernel
theorem d_G_keepVote_35 : decode prog_1_method_42_code 35 = .ok (.getfield 237, 3) := by decide +kernel
theorem d_G_keepVote_38 : decode prog_1_method_42_code 38 = .ok (.invokestatic 240, 3) := by decide +kernel
theorem d_G_keepVote_41 : decode prog_1_method_42_code 41 = .ok (.aload_n 0, 1) := by decide +kernel
theorem d_G_keepVote_42 : decode prog_1_method_42_code 42 = .ok (.getfield 32, 3) := by decide +kernel
theorem d_G_keepVote_45 : decode prog_1_method_42_code 45 = .ok (.if_icmp .lt 16, 3) := by decide +kernel
theorem d_G_keepVote_48 : decode prog_1_method_42_code 48 = .ok (.aload_n 0, 1) := by decide +kernel
theorem d_G_keepVote_49 : decode prog_1_method_42_code 49 = .ok (.aload_n 1, 1) := by decide +kernel
theorem d_G_keepVote_50 : decode prog_1_method_42_code 50 = .ok (.bipush 6, 2) := by decide +kernel
theorem d_G_keepVote_52 : decode prog_1_method_42_code 52 = .ok (.iload_n 3, 1) := by decide +kernel
theorem d_G_keepVote_53 : decode prog_1_method_42_code 53 = .ok (.invokevirtual 171, 3) := by decide +kernel
theorem d_G_keepVote_56 : decode prog_1_method_42_code 56 = .ok (.aload_n 1, 1) := by decide +kernel
theorem d_G_keepVote_57 : decode prog_1_method_42_code 57 = .ok (.iconst 1, 1) := by decide +kernel
theorem d_G_keepVote_58 : decode prog_1_method_42_code 58 = .ok (.putfield 233, 3) := by decide +kernel
theorem d_G_keepVote_61 : decode prog_1_method_42_code 61 = .ok (.return_, 1) := by decide +kernel
theorem b_G_keepVote_0 {l : Launch} {D : va_G} {cid : Nat → ClassId} {X : CT} {Post : PT} (hX : OK l D cid m_G_keepVote X Post) : SS l D cid m_G_keepVote X 0 [o_aload 1, o_getf 2 9, o_aload 2, o_getf 1 1, o_aload 2, o_astq 2 1, o_aload 0, o_aload 1, o_getf 2 2, o_callV l D cid m_G_primaryOf 3 1, o_istore 3, o_aload 1, o_getf 2 0, o_iload 3] (t_cmp (fun x y => x = y) (FR l D cid m_G_keepVote X 61) (FR l D cid m_G_keepVote X 27)) := by
  refine SS.cons (so_aload_n hX d_G_keepVote_0 rfl) ?_
  refine SS.cons (so_getf (C := R_P) (T := T_P) hX d_G_keepVote_1 in_P rfl (by decide) k_125) ?_
  refine SS.cons (so_aload_n hX d_G_keepVote_4 rfl) ?_
  refine SS.cons (so_getf (C := R_E) (T := T_E) hX d_G_keepVote_5 in_E rfl (by decide) k_245) ?_
  refine SS.cons (so_aload_n hX d_G_keepVote_8 rfl) ?_
  refine SS.cons (so_astq (r0 := (R_E, T_E, 8)) hX d_G_keepVote_9 rfl rfl) ?_
  refine SS.cons (so_aload_n hX d_G_keepVote_10 rfl) ?_
  refine SS.cons (so_aload_n hX d_G_keepVote_11 rfl) ?_
  refine SS.cons (so_getf (C := R_P) (T := T_P) hX d_G_keepVote_12 in_P rfl (by decide) k_108) ?_
  refine SS.cons (so_callV (M' := m_G_primaryOf) (T := T_G) hX d_G_keepVote_15 rfl k_202 k_199 k_201 k_2 k_45 pf_G_primaryOf (by decide) (by decide +kernel) ⟨by decide, by decide⟩) ?_
  refine SS.cons (so_istore_n hX d_G_keepVote_18 rfl (by decide)) ?_
  refine SS.cons (so_aload_n hX d_G_keepVote_19 rfl) ?_
  refine SS.cons (so_getf (C := R_P) (T := T_P) hX d_G_keepVote_20 in_P rfl (by decide) k_103) ?_
  refine SS.cons (so_iload_n hX d_G_keepVote_23 rfl) ?_
  exact st_icmp_eq hX d_G_keepVote_24 (by decide)
theorem b_G_keepVote_27 {l : Launch} {D : va_G} {cid : Nat → ClassId} {X : CT} {Post : PT} (hX : OK l D cid m_G_keepVote X Post) : SS l D cid m_G_keepVote X 27 [o_aload 1, o_getf 2 8] (t_if (fun x => ¬ x = 0) (FR l D cid m_G_keepVote X 61) (FR l D cid m_G_keepVote X 34)) := by
  refine SS.cons (so_aload_n hX d_G_keepVote_27 rfl) ?_
  refine SS.cons (so_getf (C := R_P) (T := T_P) hX d_G_keepVote_28 in_P rfl (by decide) k_123) ?_
  exact st_if_ne hX d_G_keepVote_31 (by decide)
theorem b_G_keepVote_34 {l : Launch} {D : va_G} {cid : Nat → ClassId} {X : CT} {Post : PT} (hX : OK l D cid m_G_keepVote X Post) : SS l D cid m_G_keepVote X 34 [o_aload 1, o_getf 2 9, o_callS l D cid m_P_count 1, o_aload 0, o_getf 3 1] (t_cmp (fun x y => x < y) (FR l D cid m_G_keepVote X 61) (FR l D cid m_G_keepVote X 48)) := by
  refine SS.cons (so_aload_n hX d_G_keepVote_34 rfl) ?_
  refine SS.cons (so_getf (C := R_P) (T := T_P) hX d_G_keepVote_35 in_P rfl (by decide) k_125) ?_
  refine SS.cons (so_callS (M' := m_P_count) hX d_G_keepVote_38 k_372 k_370 k_371 k_46 pf_P_count (by decide) (by decide +kernel) ⟨by decide, by decide⟩) ?_
  refine SS.cons (so_aload_n hX d_G_keepVote_41 rfl) ?_
  refine SS.cons (so_getf (C := R_G) (T := T_G) hX d_G_keepVote_42 in_G rfl (by decide) k_160) ?_
  exact st_icmp_lt hX d_G_keepVote_45 (by decide)
theorem b_G_keepVote_48 {l : Launch} {D : va_G} {cid : Nat → ClassId} {X : CT} {Post : PT} (hX : OK l D cid m_G_keepVote X Post) : SS l D cid m_G_keepVote X 48 [o_aload 0, o_aload 1, o_push (.int 6), o_iload 3, o_callV l D cid m_G_send 3 3, o_aload 1, o_push (.int 1), o_put okZ 2 8] (FR l D cid m_G_keepVote X 61) := by
  refine SS.cons (so_aload_n hX d_G_keepVote_48 rfl) ?_
  refine SS.cons (so_aload_n hX d_G_keepVote_49 rfl) ?_
  refine SS.cons (so_bipush hX d_G_keepVote_50 (by decide)) ?_
  refine SS.cons (so_iload_n hX d_G_keepVote_52 rfl) ?_
  refine SS.cons (so_callV (M' := m_G_send) (T := T_G) hX d_G_keepVote_53 rfl k_236 k_233 k_235 k_6 k_45 pf_G_send (by decide) (by decide +kernel) ⟨by decide, by decide⟩) ?_
  refine SS.cons (so_aload_n hX d_G_keepVote_56 rfl) ?_
  refine SS.cons (so_iconst hX d_G_keepVote_57 (by decide)) ?_
  refine SS.cons (so_put (C := R_P) (T := T_P) ok_Z hX d_G_keepVote_58 in_P ty_P nm_P rfl (by decide) k_123 rfl rfl) ?_
  exact SS.fall
theorem b_G_keepVote_61 {l : Launch} {D : va_G} {cid : Nat → ClassId} {X : CT} {Post : PT} (hX : OK l D cid m_G_keepVote X Post) : SS l D cid m_G_keepVote X 61 [] (t_ret Post) := by
  exact st_ret hX d_G_keepVote_61 rfl
abbrev m_G_keepPaper : MT := (⟨"GroupLog", "keepPaper", "(LGroupLog$Replica;LGroupLog$Message;)V"⟩, prog_1_method_43_code, 3, (none : Option FieldType), { frames := 4, cells := 5, slots := 40, locals := 89 })
theorem pf_G_keepPaper : plainFor m_G_keepPaper.1 = true := by decide +kernel
theorem d_G_keepPaper_0 : decode prog_1_method_43_code 0 = .ok (.aload_n 1, 1) := by decide +kernel
theorem d_G_keepPaper_1 : decode prog_1_method_43_code 1 = .ok (.getfield 244, 3) := by decide +kernel
theorem d_G_keepPaper_4 : decode prog_1_method_43_code 4 = .ok (.aload_n 2, 1) := by decide +kernel
theorem d_G_keepPaper_5 : decode prog_1_method_43_code 5 = .ok (.getfield 151, 3) := by decide +kernel
theorem d_G_keepPaper_8 : decode prog_1_method_43_code 8 = .ok (.aload_n 2, 1) := by decide +kernel
theorem d_G_keepPaper_9 : decode prog_1_method_43_code 9 = .ok (.aastore, 1) := by decide +kernel
theorem d_G_keepPaper_10 : decode prog_1_method_43_code 10 = .ok (.aload_n 1, 1) := by decide +kernel
theorem d_G_keepPaper_11 : decode prog_1_method_43_code 11 = .ok (.getfield 244, 3) := by decide +kernel
theorem d_G_keepPaper_14 : decode prog_1_method_43_code 14 = .ok (.invokestatic 240, 3) := by decide +kernel
theorem d_G_keepPaper_17 : decode prog_1_method_43_code 17 = .ok (.aload_n 0, 1) := by decide +kernel
theorem d_G_keepPaper_18 : decode prog_1_method_43_code 18 = .ok (.getfield 32, 3) := by decide +kernel
theorem d_G_keepPaper_21 : decode prog_1_method_43_code 21 = .ok (.if_icmp .lt 13, 3) := by decide +kernel
theorem d_G_keepPaper_24 : decode prog_1_method_43_code 24 = .ok (.aload_n 1, 1) := by decide +kernel
theorem d_G_keepPaper_25 : decode prog_1_method_43_code 25 = .ok (.invokevirtual 247, 3) := by decide +kernel
theorem d_G_keepPaper_28 : decode prog_1_method_43_code 28 = .ok (.aload_n 0, 1) := by decide +kernel
theorem d_G_keepPaper_29 : decode prog_1_method_43_code 29 = .ok (.aload_n 1, 1) := by decide +kernel
theorem d_G_keepPaper_30 : decode prog_1_method_43_code 30 = .ok (.iconst 4, 1) := by decide +kernel
theorem d_G_keepPaper_31 : decode prog_1_method_43_code 31 = .ok (.invokevirtual 79, 3) := by decide +kernel
theorem d_G_keepPaper_34 : decode prog_1_method_43_code 34 = .ok (.return_, 1) := by decide +kernel
theorem b_G_keepPaper_0 {l : Launch} {D : va_G} {cid : Nat → ClassId} {X : CT} {Post : PT} (hX : OK l D cid m_G_keepPaper X Post) : SS l D cid m_G_keepPaper X 0 [o_aload 1, o_getf 2 10, o_aload 2, o_getf 1 1, o_aload 2, o_astq 2 1, o_aload 1, o_getf 2 10, o_callS l D cid m_P_count 1, o_aload 0, o_getf 3 1] (t_cmp (fun x y => x < y) (FR l D cid m_G_keepPaper X 34) (FR l D cid m_G_keepPaper X 24)) := by
  refine SS.cons (so_aload_n hX d_G_keepPaper_0 rfl) ?_
  refine SS.cons (so_getf (C := R_P) (T := T_P) hX d_G_keepPaper_1 in_P rfl (by decide) k_127) ?_
  refine SS.cons (so_aload_n hX d_G_keepPaper_4 rfl) ?_
  refine SS.cons (so_getf (C := R_E) (T := T_E) hX d_G_keepPaper_5 in_E rfl (by decide) k_245) ?_
  refine SS.cons (so_aload_n hX d_G_keepPaper_8 rfl) ?_
  refine SS.cons (so_astq (r0 := (R_E, T_E, 8)) hX d_G_keepPaper_9 rfl rfl) ?_
  refine SS.cons (so_aload_n hX d_G_keepPaper_10 rfl) ?_
  refine SS.cons (so_getf (C := R_P) (T := T_P) hX d_G_keepPaper_11 in_P rfl (by decide) k_127) ?_
  refine SS.cons (so_callS (M' := m_P_count) hX d_G_keepPaper_14 k_372 k_370 k_371 k_46 pf_P_count (by decide) (by decide +kernel) ⟨by decide, by decide⟩) ?_
  refine SS.cons (so_aload_n hX d_G_keepPaper_17 rfl) ?_
  refine SS.cons (so_getf (C := R_G) (T := T_G) hX d_G_keepPaper_18 in_G rfl (by decide) k_160) ?_
  exact st_icmp_lt hX d_G_keepPaper_21 (by decide)
theorem b_G_keepPaper_24 {l : Launch} {D : va_G} {cid : Nat → ClassId} {X : CT} {Post : PT} (hX : OK l D cid m_G_keepPaper X Post) : SS l D cid m_G_keepPaper X 24 [o_aload 1, o_callV l D cid m_P_becomePrimary 2 0, o_aload 0, o_aload 1, o_push (.int 4), o_callV l D cid m_G_sendToAll 3 2] (FR l D cid m_G_keepPaper X 34) := by
  refine SS.cons (so_aload_n hX d_G_keepPaper_24 rfl) ?_
  refine SS.cons (so_callV (M' := m_P_becomePrimary) (T := T_P) hX d_G_keepPaper_25 rfl k_380 k_377 k_378 k_379 k_46 pf_P_becomePrimary (by decide) (by decide +kernel) ⟨by decide, by decide⟩) ?_
  refine SS.cons (so_aload_n hX d_G_keepPaper_28 rfl) ?_
  refine SS.cons (so_aload_n hX d_G_keepPaper_29 rfl) ?_
  refine SS.cons (so_iconst hX d_G_keepPaper_30 (by decide)) ?_
  refine SS.cons (so_callV (M' := m_G_sendToAll) (T := T_G) hX d_G_keepPaper_31 rfl k_232 k_229 k_231 k_5 k_45 pf_G_sendToAll (by decide) (by decide +kernel) ⟨by decide, by decide⟩) ?_
  exact SS.fall
theorem b_G_keepPaper_34 {l : Launch} {D : va_G} {cid : Nat → ClassId} {X : CT} {Post : PT} (hX : OK l D cid m_G_keepPaper X Post) : SS l D cid m_G_keepPaper X 34 [] (t_ret Post) := by
  exact st_ret hX d_G_keepPaper_34 rfl
abbrev m_G_keepResponse : MT := (⟨"GroupLog", "keepResponse", "(LGroupLog$Replica;LGroupLog$Message;)V"⟩, prog_1_method_44_code, 5, (none : Option FieldType), { frames := 2, cells := 0, slots := 0, locals := 44 })
theorem pf_G_keepResponse : plainFor m_G_keepResponse.1 = true := by decide +kernel
theorem d_G_keepResponse_0 : decode prog_1_method_44_code 0 = .ok (.aload_n 1, 1) := by decide +kernel
theorem d_G_keepResponse_1 : decode prog_1_method_44_code 1 = .ok (.getfield 250, 3) := by decide +kernel
theorem d_G_keepResponse_4 : decode prog_1_method_44_code 4 = .ok (.aload_n 2, 1) := by decide +kernel
theorem d_G_keepResponse_5 : decode prog_1_method_44_code 5 = .ok (.getfield 151, 3) := by decide +kernel
theorem d_G_keepResponse_8 : decode prog_1_method_44_code 8 = .ok (.aload_n 2, 1) := by decide +kernel
theorem d_G_keepResponse_9 : decode prog_1_method_44_code 9 = .ok (.aastore, 1) := by decide +kernel
theorem d_G_keepResponse_10 : decode prog_1_method_44_code 10 = .ok (.aload_n 1, 1) := by decide +kernel
theorem d_G_keepResponse_11 : decode prog_1_method_44_code 11 = .ok (.getfield 250, 3) := by decide +kernel
theorem d_G_keepResponse_14 : decode prog_1_method_44_code 14 = .ok (.invokestatic 240, 3) := by decide +kernel
theorem d_G_keepResponse_17 : decode prog_1_method_44_code 17 = .ok (.aload_n 0, 1) := by decide +kernel
theorem d_G_keepResponse_18 : decode prog_1_method_44_code 18 = .ok (.getfield 32, 3) := by decide +kernel
theorem d_G_keepResponse_21 : decode prog_1_method_44_code 21 = .ok (.if_icmp .gt 4, 3) := by decide +kernel
theorem d_G_keepResponse_24 : decode prog_1_method_44_code 24 = .ok (.return_, 1) := by decide +kernel
theorem d_G_keepResponse_25 : decode prog_1_method_44_code 25 = .ok (.aload_n 1, 1) := by decide +kernel
theorem d_G_keepResponse_26 : decode prog_1_method_44_code 26 = .ok (.getfield 250, 3) := by decide +kernel
theorem d_G_keepResponse_29 : decode prog_1_method_44_code 29 = .ok (.invokestatic 253, 3) := by decide +kernel
theorem d_G_keepResponse_32 : decode prog_1_method_44_code 32 = .ok (.istore_n 3, 1) := by decide +kernel
theorem d_G_keepResponse_33 : decode prog_1_method_44_code 33 = .ok (.aload_n 1, 1) := by decide +kernel
theorem d_G_keepResponse_34 : decode prog_1_method_44_code 34 = .ok (.getfield 250, 3) := by decide +kernel
theorem d_G_keepResponse_37 : decode prog_1_method_44_code 37 = .ok (.aload_n 0, 1) := by decide +kernel
theorem d_G_keepResponse_38 : decode prog_1_method_44_code 38 = .ok (.iload_n 3, 1) := by decide +kernel
theorem d_G_keepResponse_39 : decode prog_1_method_44_code 39 = .ok (.invokevirtual 161, 3) := by decide +kernel
theorem d_G_keepResponse_42 : decode prog_1_method_44_code 42 = .ok (.aaload, 1) := by decide +kernel
theorem d_G_keepResponse_43 : decode prog_1_method_44_code 43 = .ok (.astore 4, 2) := by decide +kernel
theorem d_G_keepResponse_45 : decode prog_1_method_44_code 45 = .ok (.aload 4, 2) := by decide +kernel
theorem d_G_keepResponse_47 : decode prog_1_method_44_code 47 = .ok (.ifnull 27, 3) := by decide +kernel
theorem d_G_keepResponse_50 : decode prog_1_method_44_code 50 = .ok (.aload 4, 2) := by decide +kernel
theorem d_G_keepResponse_52 : decode prog_1_method_44_code 52 = .ok (.getfield 157, 3) := by decide +kernel
theorem d_G_keepResponse_55 : decode prog_1_method_44_code 55 = .ok (.iload_n 3, 1) := by decide +kernel
theorem d_G_keepResponse_56 : decode prog_1_method_44_code 56 = .ok (.if_icmp .ne 18, 3) := by decide +kernel
theorem d_G_keepResponse_59 : decode prog_1_method_44_code 59 = .ok (.aload_n 1, 1) := by decide +kernel
theorem d_G_keepResponse_60 : decode prog_1_method_44_code 60 = .ok (.iload_n 3, 1) := by decide +kernel
theorem d_G_keepResponse_61 : decode prog_1_method_44_code 61 = .ok (.aload 4, 2) := by decide +kernel
theorem d_G_keepResponse_63 : decode prog_1_method_44_code 63 = .ok (.getfield 215, 3) := by decide +kernel
theorem d_G_keepResponse_66 : decode prog_1_method_44_code 66 = .ok (.aload 4, 2) := by decide +kernel
theorem d_G_keepResponse_68 : decode prog_1_method_44_code 68 = .ok (.getfield 216, 3) := by decide +kernel
theorem d_G_keepResponse_71 : decode prog_1_method_44_code 71 = .ok (.invokevirtual 226, 3) := by decide +kernel
theorem d_G_keepResponse_74 : decode prog_1_method_44_code 74 = .ok (.return_, 1) := by decide +kernel
theorem b_G_keepResponse_0 {l : Launch} {D : va_G} {cid : Nat → ClassId} {X : CT} {Post : PT} (hX : OK l D cid m_G_keepResponse X Post) : SS l D cid m_G_keepResponse X 0 [o_aload 1, o_getf 2 11, o_aload 2, o_getf 1 1, o_aload 2, o_astq 2 1, o_aload 1, o_getf 2 11, o_callS l D cid m_P_count 1, o_aload 0, o_getf 3 1] (t_cmp (fun x y => y < x) (FR l D cid m_G_keepResponse X 25) (FR l D cid m_G_keepResponse X 24)) := by
  refine SS.cons (so_aload_n hX d_G_keepResponse_0 rfl) ?_
  refine SS.cons (so_getf (C := R_P) (T := T_P) hX d_G_keepResponse_1 in_P rfl (by decide) k_129) ?_
  refine SS.cons (so_aload_n hX d_G_keepResponse_4 rfl) ?_
  refine SS.cons (so_getf (C := R_E) (T := T_E) hX d_G_keepResponse_5 in_E rfl (by decide) k_245) ?_
  refine SS.cons (so_aload_n hX d_G_keepResponse_8 rfl) ?_
  refine SS.cons (so_astq (r0 := (R_E, T_E, 8)) hX d_G_keepResponse_9 rfl rfl) ?_
  refine SS.cons (so_aload_n hX d_G_keepResponse_10 rfl) ?_
  refine SS.cons (so_getf (C := R_P) (T := T_P) hX d_G_keepResponse_11 in_P rfl (by decide) k_129) ?_
  refine SS.cons (so_callS (M' := m_P_count) hX d_G_keepResponse_14 k_372 k_370 k_371 k_46 pf_P_count (by decide) (by decide +kernel) ⟨by decide, by decide⟩) ?_
  refine SS.cons (so_aload_n hX d_G_keepResponse_17 rfl) ?_
  refine SS.cons (so_getf (C := R_G) (T := T_G) hX d_G_keepResponse_18 in_G rfl (by decide) k_160) ?_
  exact st_icmp_gt hX d_G_keepResponse_21 (by decide)
theorem b_G_keepResponse_24 {l : Launch} {D : va_G} {cid : Nat → ClassId} {X : CT} {Post : PT} (hX : OK l D cid m_G_keepResponse X Post) : SS l D cid m_G_keepResponse X 24 [] (t_ret Post) := by
  exact st_ret hX d_G_keepResponse_24 rfl
theorem b_G_keepResponse_25 {l : Launch} {D : va_G} {cid : Nat → ClassId} {X : CT} {Post : PT} (hX : OK l D cid m_G_keepResponse X Post) : SS l D cid m_G_keepResponse X 25 [o_aload 1, o_getf 2 11, o_callS l D cid m_P_greatestView 1, o_istore 3, o_aload 1, o_getf 2 11, o_aload 0, o_iload 3, o_callV l D cid m_G_primaryOf 3 1, o_aldq 2, o_astore 4, o_aload 4] (t_null (FR l D cid m_G_keepResponse X 74) (FR l D cid m_G_keepResponse X 50)) := by
  refine SS.cons (so_aload_n hX d_G_keepResponse_25 rfl) ?_
  refine SS.cons (so_getf (C := R_P) (T := T_P) hX d_G_keepResponse_26 in_P rfl (by decide) k_129) ?_
  refine SS.cons (so_callS (M' := m_P_greatestView) hX d_G_keepResponse_29 k_392 k_390 k_391 k_46 pf_P_greatestView (by decide) (by decide +kernel) ⟨by decide, by decide⟩) ?_
  refine SS.cons (so_istore_n hX d_G_keepResponse_32 rfl (by decide)) ?_
  refine SS.cons (so_aload_n hX d_G_keepResponse_33 rfl) ?_
  refine SS.cons (so_getf (C := R_P) (T := T_P) hX d_G_keepResponse_34 in_P rfl (by decide) k_129) ?_
  refine SS.cons (so_aload_n hX d_G_keepResponse_37 rfl) ?_
  refine SS.cons (so_iload_n hX d_G_keepResponse_38 rfl) ?_
  refine SS.cons (so_callV (M' := m_G_primaryOf) (T := T_G) hX d_G_keepResponse_39 rfl k_202 k_199 k_201 k_2 k_45 pf_G_primaryOf (by decide) (by decide +kernel) ⟨by decide, by decide⟩) ?_
  refine SS.cons (so_aldq hX d_G_keepResponse_42 rfl) ?_
  refine SS.cons (so_astore hX d_G_keepResponse_43 (by decide)) ?_
  refine SS.cons (so_aload hX d_G_keepResponse_45) ?_
  exact st_ifnull hX d_G_keepResponse_47 (by decide)
theorem b_G_keepResponse_50 {l : Launch} {D : va_G} {cid : Nat → ClassId} {X : CT} {Post : PT} (hX : OK l D cid m_G_keepResponse X Post) : SS l D cid m_G_keepResponse X 50 [o_aload 4, o_getf 1 3, o_iload 3] (t_cmp (fun x y => ¬ x = y) (FR l D cid m_G_keepResponse X 74) (FR l D cid m_G_keepResponse X 59)) := by
  refine SS.cons (so_aload hX d_G_keepResponse_50) ?_
  refine SS.cons (so_getf (C := R_E) (T := T_E) hX d_G_keepResponse_52 in_E rfl (by decide) k_250) ?_
  refine SS.cons (so_iload_n hX d_G_keepResponse_55 rfl) ?_
  exact st_icmp_ne hX d_G_keepResponse_56 (by decide)
theorem b_G_keepResponse_59 {l : Launch} {D : va_G} {cid : Nat → ClassId} {X : CT} {Post : PT} (hX : OK l D cid m_G_keepResponse X Post) : SS l D cid m_G_keepResponse X 59 [o_aload 1, o_iload 3, o_aload 4, o_getf 1 6, o_aload 4, o_getf 1 7, o_callV l D cid m_P_becomeNormal 2 3] (FR l D cid m_G_keepResponse X 74) := by
  refine SS.cons (so_aload_n hX d_G_keepResponse_59 rfl) ?_
  refine SS.cons (so_iload_n hX d_G_keepResponse_60 rfl) ?_
  refine SS.cons (so_aload hX d_G_keepResponse_61) ?_
  refine SS.cons (so_getf (C := R_E) (T := T_E) hX d_G_keepResponse_63 in_E rfl (by decide) k_258) ?_
  refine SS.cons (so_aload hX d_G_keepResponse_66) ?_
  refine SS.cons (so_getf (C := R_E) (T := T_E) hX d_G_keepResponse_68 in_E rfl (by decide) k_261) ?_
  refine SS.cons (so_callV (M' := m_P_becomeNormal) (T := T_P) hX d_G_keepResponse_71 rfl k_352 k_349 k_350 k_351 k_46 pf_P_becomeNormal (by decide) (by decide +kernel) ⟨by decide, by decide⟩) ?_
  exact SS.fall
theorem b_G_keepResponse_74 {l : Launch} {D : va_G} {cid : Nat → ClassId} {X : CT} {Post : PT} (hX : OK l D cid m_G_keepResponse X Post) : SS l D cid m_G_keepResponse X 74 [] (t_ret Post) := by
  exact st_ret hX d_G_keepResponse_74 rfl
abbrev m_G_receive : MT := (⟨"GroupLog", "receive", "(LGroupLog$Message;)I"⟩, prog_1_method_33_code, 3, (some FieldType.int), { frames := 6, cells := 23, slots := 179, locals := 133 })
theorem pf_G_receive : plainFor m_G_receive.1 = true := by decide +kernel
theorem d_G_receive_0 : decode prog_1_method_33_code 0 = .ok (.aload_n 0, 1) := by decide +kernel
theorem d_G_receive_1 : decode prog_1_method_33_code 1 = .ok (.getfield 37, 3) := by decide +kernel
theorem d_G_receive_4 : decode prog_1_method_33_code 4 = .ok (.aload_n 1, 1) := by decide +kernel
theorem d_G_receive_5 : decode prog_1_method_33_code 5 = .ok (.getfield 154, 3) := by decide +kernel
theorem d_G_receive_8 : decode prog_1_method_33_code 8 = .ok (.aaload, 1) := by decide +kernel
theorem d_G_receive_9 : decode prog_1_method_33_code 9 = .ok (.astore_n 2, 1) := by decide +kernel
theorem d_G_receive_10 : decode prog_1_method_33_code 10 = .ok (.aload_n 2, 1) := by decide +kernel
theorem d_G_receive_11 : decode prog_1_method_33_code 11 = .ok (.aload_n 1, 1) := by decide +kernel
theorem d_G_receive_12 : decode prog_1_method_33_code 12 = .ok (.invokestatic 174, 3) := by decide +kernel
theorem d_G_receive_15 : decode prog_1_method_33_code 15 = .ok (.ifCond .ne 5, 3) := by decide +kernel
theorem d_G_receive_18 : decode prog_1_method_33_code 18 = .ok (.iconst 0, 1) := by decide +kernel
theorem d_G_receive_19 : decode prog_1_method_33_code 19 = .ok (.ireturn, 1) := by decide +kernel
theorem d_G_receive_20 : decode prog_1_method_33_code 20 = .ok (.aload_n 2, 1) := by decide +kernel
theorem d_G_receive_21 : decode prog_1_method_33_code 21 = .ok (.aload_n 1, 1) := by decide +kernel
theorem d_G_receive_22 : decode prog_1_method_33_code 22 = .ok (.invokestatic 178, 3) := by decide +kernel
theorem d_G_receive_25 : decode prog_1_method_33_code 25 = .ok (.ifCond .eq 5, 3) := by decide +kernel
theorem d_G_receive_28 : decode prog_1_method_33_code 28 = .ok (.iconst 1, 1) := by decide +kernel
theorem d_G_receive_29 : decode prog_1_method_33_code 29 = .ok (.ireturn, 1) := by decide +kernel
theorem d_G_receive_30 : decode prog_1_method_33_code 30 = .ok (.aload_n 2, 1) := by decide +kernel
theorem d_G_receive_31 : decode prog_1_method_33_code 31 = .ok (.aload_n 1, 1) := by decide +kernel
theorem d_G_receive_32 : decode prog_1_method_33_code 32 = .ok (.getfield 181, 3) := by decide +kernel
theorem d_G_receive_35 : decode prog_1_method_33_code 35 = .ok (.invokevirtual 182, 3) := by decide +kernel
theorem d_G_receive_38 : decode prog_1_method_33_code 38 = .ok (.aload_n 2, 1) := by decide +kernel
theorem d_G_receive_39 : decode prog_1_method_33_code 39 = .ok (.invokevirtual 186, 3) := by decide +kernel
theorem d_G_receive_42 : decode prog_1_method_33_code 42 = .ok (.aload_n 1, 1) := by decide +kernel
theorem d_G_receive_43 : decode prog_1_method_33_code 43 = .ok (.getfield 148, 3) := by decide +kernel
theorem d_G_receive_46 : decode prog_1_method_33_code 46 = .ok (.tableswitch 139 1 8 #[46, 55, 64, 74, 83, 101, 119, 130], 46) := by decide +kernel
theorem d_G_receive_92 : decode prog_1_method_33_code 92 = .ok (.aload_n 0, 1) := by decide +kernel
theorem d_G_receive_93 : decode prog_1_method_33_code 93 = .ok (.aload_n 2, 1) := by decide +kernel
theorem d_G_receive_94 : decode prog_1_method_33_code 94 = .ok (.aload_n 1, 1) := by decide +kernel
theorem d_G_receive_95 : decode prog_1_method_33_code 95 = .ok (.invokevirtual 189, 3) := by decide +kernel
theorem d_G_receive_98 : decode prog_1_method_33_code 98 = .ok (.goto 87, 3) := by decide +kernel
theorem d_G_receive_101 : decode prog_1_method_33_code 101 = .ok (.aload_n 0, 1) := by decide +kernel
theorem d_G_receive_102 : decode prog_1_method_33_code 102 = .ok (.aload_n 2, 1) := by decide +kernel
theorem d_G_receive_103 : decode prog_1_method_33_code 103 = .ok (.aload_n 1, 1) := by decide +kernel
theorem d_G_receive_104 : decode prog_1_method_33_code 104 = .ok (.invokevirtual 193, 3) := by decide +kernel
theorem d_G_receive_107 : decode prog_1_method_33_code 107 = .ok (.goto 78, 3) := by decide +kernel
theorem d_G_receive_110 : decode prog_1_method_33_code 110 = .ok (.aload_n 0, 1) := by decide +kernel
theorem d_G_receive_111 : decode prog_1_method_33_code 111 = .ok (.aload_n 2, 1) := by decide +kernel
theorem d_G_receive_112 : decode prog_1_method_33_code 112 = .ok (.aload_n 1, 1) := by decide +kernel
theorem d_G_receive_113 : decode prog_1_method_33_code 113 = .ok (.iconst 4, 1) := by decide +kernel
theorem d_G_receive_114 : decode prog_1_method_33_code 114 = .ok (.invokevirtual 196, 3) := by decide +kernel
theorem d_G_receive_117 : decode prog_1_method_33_code 117 = .ok (.goto 68, 3) := by decide +kernel
theorem d_G_receive_120 : decode prog_1_method_33_code 120 = .ok (.aload_n 0, 1) := by decide +kernel
theorem d_G_receive_121 : decode prog_1_method_33_code 121 = .ok (.aload_n 2, 1) := by decide +kernel
theorem d_G_receive_122 : decode prog_1_method_33_code 122 = .ok (.aload_n 1, 1) := by decide +kernel
theorem d_G_receive_123 : decode prog_1_method_33_code 123 = .ok (.invokevirtual 200, 3) := by decide +kernel
theorem d_G_receive_126 : decode prog_1_method_33_code 126 = .ok (.goto 59, 3) := by decide +kernel
theorem d_G_receive_129 : decode prog_1_method_33_code 129 = .ok (.aload_n 0, 1) := by decide +kernel
theorem d_G_receive_130 : decode prog_1_method_33_code 130 = .ok (.aload_n 2, 1) := by decide +kernel
theorem d_G_receive_131 : decode prog_1_method_33_code 131 = .ok (.aload_n 1, 1) := by decide +kernel
theorem d_G_receive_132 : decode prog_1_method_33_code 132 = .ok (.invokevirtual 203, 3) := by decide +kernel
theorem d_G_receive_135 : decode prog_1_method_33_code 135 = .ok (.ifCond .eq 50, 3) := by decide +kernel
theorem d_G_receive_138 : decode prog_1_method_33_code 138 = .ok (.aload_n 0, 1) := by decide +kernel
theorem d_G_receive_139 : decode prog_1_method_33_code 139 = .ok (.aload_n 2, 1) := by decide +kernel
theorem d_G_receive_140 : decode prog_1_method_33_code 140 = .ok (.aload_n 1, 1) := by decide +kernel
theorem d_G_receive_141 : decode prog_1_method_33_code 141 = .ok (.invokevirtual 206, 3) := by decide +kernel
theorem d_G_receive_144 : decode prog_1_method_33_code 144 = .ok (.goto 41, 3) := by decide +kernel
theorem d_G_receive_147 : decode prog_1_method_33_code 147 = .ok (.aload_n 0, 1) := by decide +kernel
theorem d_G_receive_148 : decode prog_1_method_33_code 148 = .ok (.aload_n 2, 1) := by decide +kernel
theorem d_G_receive_149 : decode prog_1_method_33_code 149 = .ok (.aload_n 1, 1) := by decide +kernel
theorem d_G_receive_150 : decode prog_1_method_33_code 150 = .ok (.invokevirtual 203, 3) := by decide +kernel
theorem d_G_receive_153 : decode prog_1_method_33_code 153 = .ok (.ifCond .eq 32, 3) := by decide +kernel
theorem d_G_receive_156 : decode prog_1_method_33_code 156 = .ok (.aload_n 0, 1) := by decide +kernel
theorem d_G_receive_157 : decode prog_1_method_33_code 157 = .ok (.aload_n 2, 1) := by decide +kernel
theorem d_G_receive_158 : decode prog_1_method_33_code 158 = .ok (.aload_n 1, 1) := by decide +kernel
theorem d_G_receive_159 : decode prog_1_method_33_code 159 = .ok (.invokevirtual 209, 3) := by decide +kernel
theorem d_G_receive_162 : decode prog_1_method_33_code 162 = .ok (.goto 23, 3) := by decide +kernel
theorem d_G_receive_165 : decode prog_1_method_33_code 165 = .ok (.aload_n 0, 1) := by decide +kernel
theorem d_G_receive_166 : decode prog_1_method_33_code 166 = .ok (.aload_n 2, 1) := by decide +kernel
theorem d_G_receive_167 : decode prog_1_method_33_code 167 = .ok (.aload_n 1, 1) := by decide +kernel
theorem d_G_receive_168 : decode prog_1_method_33_code 168 = .ok (.bipush 8, 2) := by decide +kernel
theorem d_G_receive_170 : decode prog_1_method_33_code 170 = .ok (.invokevirtual 196, 3) := by decide +kernel
theorem d_G_receive_173 : decode prog_1_method_33_code 173 = .ok (.goto 12, 3) := by decide +kernel
theorem d_G_receive_176 : decode prog_1_method_33_code 176 = .ok (.aload_n 0, 1) := by decide +kernel
theorem d_G_receive_177 : decode prog_1_method_33_code 177 = .ok (.aload_n 2, 1) := by decide +kernel
theorem d_G_receive_178 : decode prog_1_method_33_code 178 = .ok (.aload_n 1, 1) := by decide +kernel
theorem d_G_receive_179 : decode prog_1_method_33_code 179 = .ok (.invokevirtual 212, 3) := by decide +kernel
theorem d_G_receive_182 : decode prog_1_method_33_code 182 = .ok (.goto 3, 3) := by decide +kernel
theorem d_G_receive_185 : decode prog_1_method_33_code 185 = .ok (.iconst 2, 1) := by decide +kernel
theorem d_G_receive_186 : decode prog_1_method_33_code 186 = .ok (.ireturn, 1) := by decide +kernel
theorem b_G_receive_0 {l : Launch} {D : va_G} {cid : Nat → ClassId} {X : CT} {Post : PT} (hX : OK l D cid m_G_receive X Post) : SS l D cid m_G_receive X 0 [o_aload 0, o_getf 3 2, o_aload 1, o_getf 1 2, o_aldq 3, o_astore 2, o_aload 2, o_aload 1, o_callS l D cid m_G_hears 2] (t_if (fun x => ¬ x = 0) (FR l D cid m_G_receive X 20) (FR l D cid m_G_receive X 18)) := by
  refine SS.cons (so_aload_n hX d_G_receive_0 rfl) ?_
  refine SS.cons (so_getf (C := R_G) (T := T_G) hX d_G_receive_1 in_G rfl (by decide) k_161) ?_
  refine SS.cons (so_aload_n hX d_G_receive_4 rfl) ?_
  refine SS.cons (so_getf (C := R_E) (T := T_E) hX d_G_receive_5 in_E rfl (by decide) k_247) ?_
  refine SS.cons (so_aldq hX d_G_receive_8 rfl) ?_
  refine SS.cons (so_astore_n hX d_G_receive_9 rfl (by decide)) ?_
  refine SS.cons (so_aload_n hX d_G_receive_10 rfl) ?_
  refine SS.cons (so_aload_n hX d_G_receive_11 rfl) ?_
  refine SS.cons (so_callS (M' := m_G_hears) hX d_G_receive_12 k_293 k_291 k_292 k_45 pf_G_hears (by decide) (by decide +kernel) ⟨by decide, by decide⟩) ?_
  exact st_if_ne hX d_G_receive_15 (by decide)
theorem b_G_receive_18 {l : Launch} {D : va_G} {cid : Nat → ClassId} {X : CT} {Post : PT} (hX : OK l D cid m_G_receive X Post) : SS l D cid m_G_receive X 18 [o_push (.int 0)] (t_iret Post) := by
  refine SS.cons (so_iconst hX d_G_receive_18 (by decide)) ?_
  exact st_iret hX d_G_receive_19 rfl
theorem b_G_receive_20 {l : Launch} {D : va_G} {cid : Nat → ClassId} {X : CT} {Post : PT} (hX : OK l D cid m_G_receive X Post) : SS l D cid m_G_receive X 20 [o_aload 2, o_aload 1, o_callS l D cid m_G_isOutdated 2] (t_if (fun x => x = 0) (FR l D cid m_G_receive X 30) (FR l D cid m_G_receive X 28)) := by
  refine SS.cons (so_aload_n hX d_G_receive_20 rfl) ?_
  refine SS.cons (so_aload_n hX d_G_receive_21 rfl) ?_
  refine SS.cons (so_callS (M' := m_G_isOutdated) hX d_G_receive_22 k_296 k_294 k_295 k_45 pf_G_isOutdated (by decide) (by decide +kernel) ⟨by decide, by decide⟩) ?_
  exact st_if_eq hX d_G_receive_25 (by decide)
theorem b_G_receive_28 {l : Launch} {D : va_G} {cid : Nat → ClassId} {X : CT} {Post : PT} (hX : OK l D cid m_G_receive X Post) : SS l D cid m_G_receive X 28 [o_push (.int 1)] (t_iret Post) := by
  refine SS.cons (so_iconst hX d_G_receive_28 (by decide)) ?_
  exact st_iret hX d_G_receive_29 rfl
theorem b_G_receive_30 {l : Launch} {D : va_G} {cid : Nat → ClassId} {X : CT} {Post : PT} (hX : OK l D cid m_G_receive X Post) : SS l D cid m_G_receive X 30 [o_aload 2, o_aload 1, o_getf 1 5, o_callV l D cid m_P_raiseVector 2 1, o_aload 2, o_callV l D cid m_P_forgetOutdated 2 0, o_aload 1, o_getf 1 0] (t_sw 1 8 [FR l D cid m_G_receive X 92, FR l D cid m_G_receive X 101, FR l D cid m_G_receive X 110, FR l D cid m_G_receive X 120, FR l D cid m_G_receive X 129, FR l D cid m_G_receive X 147, FR l D cid m_G_receive X 165, FR l D cid m_G_receive X 176] (FR l D cid m_G_receive X 185)) := by
  refine SS.cons (so_aload_n hX d_G_receive_30 rfl) ?_
  refine SS.cons (so_aload_n hX d_G_receive_31 rfl) ?_
  refine SS.cons (so_getf (C := R_E) (T := T_E) hX d_G_receive_32 in_E rfl (by decide) k_255) ?_
  refine SS.cons (so_callV (M' := m_P_raiseVector) (T := T_P) hX d_G_receive_35 rfl k_300 k_297 k_298 k_299 k_46 pf_P_raiseVector (by decide) (by decide +kernel) ⟨by decide, by decide⟩) ?_
  refine SS.cons (so_aload_n hX d_G_receive_38 rfl) ?_
  refine SS.cons (so_callV (M' := m_P_forgetOutdated) (T := T_P) hX d_G_receive_39 rfl k_312 k_309 k_310 k_311 k_46 pf_P_forgetOutdated (by decide) (by decide +kernel) ⟨by decide, by decide⟩) ?_
  refine SS.cons (so_aload_n hX d_G_receive_42 rfl) ?_
  refine SS.cons (so_getf (C := R_E) (T := T_E) hX d_G_receive_43 in_E rfl (by decide) k_243) ?_
  exact st_sw (tgts := [92, 101, 110, 120, 129, 147, 165, 176]) hX d_G_receive_46 (by decide) (by decide) (by decide)
theorem b_G_receive_92 {l : Launch} {D : va_G} {cid : Nat → ClassId} {X : CT} {Post : PT} (hX : OK l D cid m_G_receive X Post) : SS l D cid m_G_receive X 92 [o_aload 0, o_aload 2, o_aload 1, o_callV l D cid m_G_takePrepare 3 2] (FR l D cid m_G_receive X 185) := by
  refine SS.cons (so_aload_n hX d_G_receive_92 rfl) ?_
  refine SS.cons (so_aload_n hX d_G_receive_93 rfl) ?_
  refine SS.cons (so_aload_n hX d_G_receive_94 rfl) ?_
  refine SS.cons (so_callV (M' := m_G_takePrepare) (T := T_G) hX d_G_receive_95 rfl k_320 k_317 k_319 k_10 k_45 pf_G_takePrepare (by decide) (by decide +kernel) ⟨by decide, by decide⟩) ?_
  exact so_goto hX d_G_receive_98 (by decide)
theorem b_G_receive_101 {l : Launch} {D : va_G} {cid : Nat → ClassId} {X : CT} {Post : PT} (hX : OK l D cid m_G_receive X Post) : SS l D cid m_G_receive X 101 [o_aload 0, o_aload 2, o_aload 1, o_callV l D cid m_G_takeOk 3 2] (FR l D cid m_G_receive X 185) := by
  refine SS.cons (so_aload_n hX d_G_receive_101 rfl) ?_
  refine SS.cons (so_aload_n hX d_G_receive_102 rfl) ?_
  refine SS.cons (so_aload_n hX d_G_receive_103 rfl) ?_
  refine SS.cons (so_callV (M' := m_G_takeOk) (T := T_G) hX d_G_receive_104 rfl k_328 k_325 k_327 k_11 k_45 pf_G_takeOk (by decide) (by decide +kernel) ⟨by decide, by decide⟩) ?_
  exact so_goto hX d_G_receive_107 (by decide)
theorem b_G_receive_110 {l : Launch} {D : va_G} {cid : Nat → ClassId} {X : CT} {Post : PT} (hX : OK l D cid m_G_receive X Post) : SS l D cid m_G_receive X 110 [o_aload 0, o_aload 2, o_aload 1, o_push (.int 4), o_callV l D cid m_G_replyIfNormal 3 3] (FR l D cid m_G_receive X 185) := by
  refine SS.cons (so_aload_n hX d_G_receive_110 rfl) ?_
  refine SS.cons (so_aload_n hX d_G_receive_111 rfl) ?_
  refine SS.cons (so_aload_n hX d_G_receive_112 rfl) ?_
  refine SS.cons (so_iconst hX d_G_receive_113 (by decide)) ?_
  refine SS.cons (so_callV (M' := m_G_replyIfNormal) (T := T_G) hX d_G_receive_114 rfl k_344 k_341 k_343 k_13 k_45 pf_G_replyIfNormal (by decide) (by decide +kernel) ⟨by decide, by decide⟩) ?_
  exact so_goto hX d_G_receive_117 (by decide)
theorem b_G_receive_120 {l : Launch} {D : va_G} {cid : Nat → ClassId} {X : CT} {Post : PT} (hX : OK l D cid m_G_receive X Post) : SS l D cid m_G_receive X 120 [o_aload 0, o_aload 2, o_aload 1, o_callV l D cid m_G_takeState 3 2] (FR l D cid m_G_receive X 185) := by
  refine SS.cons (so_aload_n hX d_G_receive_120 rfl) ?_
  refine SS.cons (so_aload_n hX d_G_receive_121 rfl) ?_
  refine SS.cons (so_aload_n hX d_G_receive_122 rfl) ?_
  refine SS.cons (so_callV (M' := m_G_takeState) (T := T_G) hX d_G_receive_123 rfl k_348 k_345 k_347 k_14 k_45 pf_G_takeState (by decide) (by decide +kernel) ⟨by decide, by decide⟩) ?_
  exact so_goto hX d_G_receive_126 (by decide)
theorem b_G_receive_129 {l : Launch} {D : va_G} {cid : Nat → ClassId} {X : CT} {Post : PT} (hX : OK l D cid m_G_receive X Post) : SS l D cid m_G_receive X 129 [o_aload 0, o_aload 2, o_aload 1, o_callV l D cid m_G_joinChange 3 2] (t_if (fun x => x = 0) (FR l D cid m_G_receive X 185) (FR l D cid m_G_receive X 138)) := by
  refine SS.cons (so_aload_n hX d_G_receive_129 rfl) ?_
  refine SS.cons (so_aload_n hX d_G_receive_130 rfl) ?_
  refine SS.cons (so_aload_n hX d_G_receive_131 rfl) ?_
  refine SS.cons (so_callV (M' := m_G_joinChange) (T := T_G) hX d_G_receive_132 rfl k_360 k_357 k_359 k_15 k_45 pf_G_joinChange (by decide) (by decide +kernel) ⟨by decide, by decide⟩) ?_
  exact st_if_eq hX d_G_receive_135 (by decide)
theorem b_G_receive_138 {l : Launch} {D : va_G} {cid : Nat → ClassId} {X : CT} {Post : PT} (hX : OK l D cid m_G_receive X Post) : SS l D cid m_G_receive X 138 [o_aload 0, o_aload 2, o_aload 1, o_callV l D cid m_G_keepVote 3 2] (FR l D cid m_G_receive X 185) := by
  refine SS.cons (so_aload_n hX d_G_receive_138 rfl) ?_
  refine SS.cons (so_aload_n hX d_G_receive_139 rfl) ?_
  refine SS.cons (so_aload_n hX d_G_receive_140 rfl) ?_
  refine SS.cons (so_callV (M' := m_G_keepVote) (T := T_G) hX d_G_receive_141 rfl k_369 k_366 k_368 k_17 k_45 pf_G_keepVote (by decide) (by decide +kernel) ⟨by decide, by decide⟩) ?_
  exact so_goto hX d_G_receive_144 (by decide)
theorem b_G_receive_147 {l : Launch} {D : va_G} {cid : Nat → ClassId} {X : CT} {Post : PT} (hX : OK l D cid m_G_receive X Post) : SS l D cid m_G_receive X 147 [o_aload 0, o_aload 2, o_aload 1, o_callV l D cid m_G_joinChange 3 2] (t_if (fun x => x = 0) (FR l D cid m_G_receive X 185) (FR l D cid m_G_receive X 156)) := by
  refine SS.cons (so_aload_n hX d_G_receive_147 rfl) ?_
  refine SS.cons (so_aload_n hX d_G_receive_148 rfl) ?_
  refine SS.cons (so_aload_n hX d_G_receive_149 rfl) ?_
  refine SS.cons (so_callV (M' := m_G_joinChange) (T := T_G) hX d_G_receive_150 rfl k_360 k_357 k_359 k_15 k_45 pf_G_joinChange (by decide) (by decide +kernel) ⟨by decide, by decide⟩) ?_
  exact st_if_eq hX d_G_receive_153 (by decide)
theorem b_G_receive_156 {l : Launch} {D : va_G} {cid : Nat → ClassId} {X : CT} {Post : PT} (hX : OK l D cid m_G_receive X Post) : SS l D cid m_G_receive X 156 [o_aload 0, o_aload 2, o_aload 1, o_callV l D cid m_G_keepPaper 3 2] (FR l D cid m_G_receive X 185) := by
  refine SS.cons (so_aload_n hX d_G_receive_156 rfl) ?_
  refine SS.cons (so_aload_n hX d_G_receive_157 rfl) ?_
  refine SS.cons (so_aload_n hX d_G_receive_158 rfl) ?_
  refine SS.cons (so_callV (M' := m_G_keepPaper) (T := T_G) hX d_G_receive_159 rfl k_376 k_373 k_375 k_18 k_45 pf_G_keepPaper (by decide) (by decide +kernel) ⟨by decide, by decide⟩) ?_
  exact so_goto hX d_G_receive_162 (by decide)
theorem b_G_receive_165 {l : Launch} {D : va_G} {cid : Nat → ClassId} {X : CT} {Post : PT} (hX : OK l D cid m_G_receive X Post) : SS l D cid m_G_receive X 165 [o_aload 0, o_aload 2, o_aload 1, o_push (.int 8), o_callV l D cid m_G_replyIfNormal 3 3] (FR l D cid m_G_receive X 185) := by
  refine SS.cons (so_aload_n hX d_G_receive_165 rfl) ?_
  refine SS.cons (so_aload_n hX d_G_receive_166 rfl) ?_
  refine SS.cons (so_aload_n hX d_G_receive_167 rfl) ?_
  refine SS.cons (so_bipush hX d_G_receive_168 (by decide)) ?_
  refine SS.cons (so_callV (M' := m_G_replyIfNormal) (T := T_G) hX d_G_receive_170 rfl k_344 k_341 k_343 k_13 k_45 pf_G_replyIfNormal (by decide) (by decide +kernel) ⟨by decide, by decide⟩) ?_
  exact so_goto hX d_G_receive_173 (by decide)
theorem b_G_receive_176 {l : Launch} {D : va_G} {cid : Nat → ClassId} {X : CT} {Post : PT} (hX : OK l D cid m_G_receive X Post) : SS l D cid m_G_receive X 176 [o_aload 0, o_aload 2, o_aload 1, o_callV l D cid m_G_keepResponse 3 2] (FR l D cid m_G_receive X 185) := by
  refine SS.cons (so_aload_n hX d_G_receive_176 rfl) ?_
  refine SS.cons (so_aload_n hX d_G_receive_177 rfl) ?_
  refine SS.cons (so_aload_n hX d_G_receive_178 rfl) ?_
  refine SS.cons (so_callV (M' := m_G_keepResponse) (T := T_G) hX d_G_receive_179 rfl k_389 k_386 k_388 k_19 k_45 pf_G_keepResponse (by decide) (by decide +kernel) ⟨by decide, by decide⟩) ?_
  exact so_goto hX d_G_receive_182 (by decide)
theorem b_G_receive_185 {l : Launch} {D : va_G} {cid : Nat → ClassId} {X : CT} {Post : PT} (hX : OK l D cid m_G_receive X Post) : SS l D cid m_G_receive X 185 [o_push (.int 2)] (t_iret Post) := by
  refine SS.cons (so_iconst hX d_G_receive_185 (by decide)) ?_
  exact st_iret hX d_G_receive_186 rfl
abbrev m_G_deliver : MT := (⟨"GroupLog", "deliver", "(I)I"⟩, prog_1_method_3_code, 3, (some FieldType.int), { frames := 7, cells := 23, slots := 179, locals := 155 })
theorem pf_G_deliver : plainFor m_G_deliver.1 = true := by decide +kernel
theorem d_G_deliver_0 : decode prog_1_method_3_code 0 = .ok (.aload_n 0, 1) := by decide +kernel
theorem d_G_deliver_1 : decode prog_1_method_3_code 1 = .ok (.iload_n 1, 1) := by decide +kernel
theorem d_G_deliver_2 : decode prog_1_method_3_code 2 = .ok (.invokevirtual 83, 3) := by decide +kernel
theorem d_G_deliver_5 : decode prog_1_method_3_code 5 = .ok (.astore_n 2, 1) := by decide +kernel
theorem d_G_deliver_6 : decode prog_1_method_3_code 6 = .ok (.aload_n 2, 1) := by decide +kernel
theorem d_G_deliver_7 : decode prog_1_method_3_code 7 = .ok (.ifnonnull 7, 3) := by decide +kernel
theorem d_G_deliver_10 : decode prog_1_method_3_code 10 = .ok (.iconst (-1), 1) := by decide +kernel
theorem d_G_deliver_11 : decode prog_1_method_3_code 11 = .ok (.goto 8, 3) := by decide +kernel
theorem d_G_deliver_14 : decode prog_1_method_3_code 14 = .ok (.aload_n 0, 1) := by decide +kernel
theorem d_G_deliver_15 : decode prog_1_method_3_code 15 = .ok (.aload_n 2, 1) := by decide +kernel
theorem d_G_deliver_16 : decode prog_1_method_3_code 16 = .ok (.invokevirtual 87, 3) := by decide +kernel
theorem d_G_deliver_19 : decode prog_1_method_3_code 19 = .ok (.ireturn, 1) := by decide +kernel
theorem b_G_deliver_0 {l : Launch} {D : va_G} {cid : Nat → ClassId} {X : CT} {Post : PT} (hX : OK l D cid m_G_deliver X Post) : SS l D cid m_G_deliver X 0 [o_aload 0, o_iload 1, o_callV l D cid m_G_findMessage 3 1, o_astore 2, o_aload 2] (t_null (FR l D cid m_G_deliver X 10) (FR l D cid m_G_deliver X 14)) := by
  refine SS.cons (so_aload_n hX d_G_deliver_0 rfl) ?_
  refine SS.cons (so_iload_n hX d_G_deliver_1 rfl) ?_
  refine SS.cons (so_callV (M' := m_G_findMessage) (T := T_G) hX d_G_deliver_2 rfl k_286 k_283 k_285 k_7 k_45 pf_G_findMessage (by decide) (by decide +kernel) ⟨by decide, by decide⟩) ?_
  refine SS.cons (so_astore_n hX d_G_deliver_5 rfl (by decide)) ?_
  refine SS.cons (so_aload_n hX d_G_deliver_6 rfl) ?_
  exact st_ifnonnull hX d_G_deliver_7 (by decide)
theorem b_G_deliver_10 {l : Launch} {D : va_G} {cid : Nat → ClassId} {X : CT} {Post : PT} (hX : OK l D cid m_G_deliver X Post) : SS l D cid m_G_deliver X 10 [o_push (.int (-1))] (FR l D cid m_G_deliver X 19) := by
  refine SS.cons (so_iconst hX d_G_deliver_10 (by decide)) ?_
  exact so_goto hX d_G_deliver_11 (by decide)
theorem b_G_deliver_14 {l : Launch} {D : va_G} {cid : Nat → ClassId} {X : CT} {Post : PT} (hX : OK l D cid m_G_deliver X Post) : SS l D cid m_G_deliver X 14 [o_aload 0, o_aload 2, o_callV l D cid m_G_receive 3 1] (FR l D cid m_G_deliver X 19) := by
  refine SS.cons (so_aload_n hX d_G_deliver_14 rfl) ?_
  refine SS.cons (so_aload_n hX d_G_deliver_15 rfl) ?_
  refine SS.cons (so_callV (M' := m_G_receive) (T := T_G) hX d_G_deliver_16 rfl k_290 k_287 k_289 k_8 k_45 pf_G_receive (by decide) (by decide +kernel) ⟨by decide, by decide⟩) ?_
  exact SS.fall
theorem b_G_deliver_19 {l : Launch} {D : va_G} {cid : Nat → ClassId} {X : CT} {Post : PT} (hX : OK l D cid m_G_deliver X Post) : SS l D cid m_G_deliver X 19 [] (t_iret Post) := by
  exact st_iret hX d_G_deliver_19 rfl
abbrev m_G_next : MT := (⟨"GroupLog", "next", "()I"⟩, prog_1_method_4_code, 3, (some FieldType.int), { frames := 7, cells := 23, slots := 179, locals := 155 })
theorem pf_G_next : plainFor m_G_next.1 = true := by decide +kernel
theorem d_G_next_0 : decode prog_1_method_4_code 0 = .ok (.aload_n 0, 1) := by decide +kernel
theorem d_G_next_1 : decode prog_1_method_4_code 1 = .ok (.getfield 19, 3) := by decide +kernel
theorem d_G_next_4 : decode prog_1_method_4_code 4 = .ok (.iconst 1, 1) := by decide +kernel
theorem d_G_next_5 : decode prog_1_method_4_code 5 = .ok (.iadd, 1) := by decide +kernel
theorem d_G_next_6 : decode prog_1_method_4_code 6 = .ok (.aload_n 0, 1) := by decide +kernel
theorem d_G_next_7 : decode prog_1_method_4_code 7 = .ok (.getfield 15, 3) := by decide +kernel
theorem d_G_next_10 : decode prog_1_method_4_code 10 = .ok (.bipush 64, 2) := by decide +kernel
theorem d_G_next_12 : decode prog_1_method_4_code 12 = .ok (.isub, 1) := by decide +kernel
theorem d_G_next_13 : decode prog_1_method_4_code 13 = .ok (.invokestatic 91, 3) := by decide +kernel
theorem d_G_next_16 : decode prog_1_method_4_code 16 = .ok (.istore_n 1, 1) := by decide +kernel
theorem d_G_next_17 : decode prog_1_method_4_code 17 = .ok (.aload_n 0, 1) := by decide +kernel
theorem d_G_next_18 : decode prog_1_method_4_code 18 = .ok (.iload_n 1, 1) := by decide +kernel
theorem d_G_next_19 : decode prog_1_method_4_code 19 = .ok (.invokevirtual 83, 3) := by decide +kernel
theorem d_G_next_22 : decode prog_1_method_4_code 22 = .ok (.astore_n 2, 1) := by decide +kernel
theorem d_G_next_23 : decode prog_1_method_4_code 23 = .ok (.aload_n 2, 1) := by decide +kernel
theorem d_G_next_24 : decode prog_1_method_4_code 24 = .ok (.ifnonnull 5, 3) := by decide +kernel
theorem d_G_next_27 : decode prog_1_method_4_code 27 = .ok (.iconst (-1), 1) := by decide +kernel
theorem d_G_next_28 : decode prog_1_method_4_code 28 = .ok (.ireturn, 1) := by decide +kernel
theorem d_G_next_29 : decode prog_1_method_4_code 29 = .ok (.aload_n 0, 1) := by decide +kernel
theorem d_G_next_30 : decode prog_1_method_4_code 30 = .ok (.iload_n 1, 1) := by decide +kernel
theorem d_G_next_31 : decode prog_1_method_4_code 31 = .ok (.putfield 19, 3) := by decide +kernel
theorem d_G_next_34 : decode prog_1_method_4_code 34 = .ok (.aload_n 0, 1) := by decide +kernel
theorem d_G_next_35 : decode prog_1_method_4_code 35 = .ok (.aload_n 2, 1) := by decide +kernel
theorem d_G_next_36 : decode prog_1_method_4_code 36 = .ok (.invokevirtual 87, 3) := by decide +kernel
theorem d_G_next_39 : decode prog_1_method_4_code 39 = .ok (.ireturn, 1) := by decide +kernel
theorem b_G_next_0 {l : Launch} {D : va_G} {cid : Nat → ClassId} {X : CT} {Post : PT} (hX : OK l D cid m_G_next X Post) : SS l D cid m_G_next X 0 [o_aload 0, o_getf 3 5, o_push (.int 1), o_bin (fun x y => x + y), o_aload 0, o_getf 3 4, o_push (.int 64), o_bin (fun x y => x - y), o_callS l D cid m_J_max 2, o_istore 1, o_aload 0, o_iload 1, o_callV l D cid m_G_findMessage 3 1, o_astore 2, o_aload 2] (t_null (FR l D cid m_G_next X 27) (FR l D cid m_G_next X 29)) := by
  refine SS.cons (so_aload_n hX d_G_next_0 rfl) ?_
  refine SS.cons (so_getf (C := R_G) (T := T_G) hX d_G_next_1 in_G rfl (by decide) k_164) ?_
  refine SS.cons (so_iconst hX d_G_next_4 (by decide)) ?_
  refine SS.cons (so_iadd hX d_G_next_5) ?_
  refine SS.cons (so_aload_n hX d_G_next_6 rfl) ?_
  refine SS.cons (so_getf (C := R_G) (T := T_G) hX d_G_next_7 in_G rfl (by decide) k_163) ?_
  refine SS.cons (so_bipush hX d_G_next_10 (by decide)) ?_
  refine SS.cons (so_isub hX d_G_next_12) ?_
  refine SS.cons (so_callS (M' := m_J_max) hX d_G_next_13 k_212 k_324 k_211 k_49 pf_J_max (by decide) (by decide +kernel) ⟨by decide, by decide⟩) ?_
  refine SS.cons (so_istore_n hX d_G_next_16 rfl (by decide)) ?_
  refine SS.cons (so_aload_n hX d_G_next_17 rfl) ?_
  refine SS.cons (so_iload_n hX d_G_next_18 rfl) ?_
  refine SS.cons (so_callV (M' := m_G_findMessage) (T := T_G) hX d_G_next_19 rfl k_286 k_283 k_285 k_7 k_45 pf_G_findMessage (by decide) (by decide +kernel) ⟨by decide, by decide⟩) ?_
  refine SS.cons (so_astore_n hX d_G_next_22 rfl (by decide)) ?_
  refine SS.cons (so_aload_n hX d_G_next_23 rfl) ?_
  exact st_ifnonnull hX d_G_next_24 (by decide)
theorem b_G_next_27 {l : Launch} {D : va_G} {cid : Nat → ClassId} {X : CT} {Post : PT} (hX : OK l D cid m_G_next X Post) : SS l D cid m_G_next X 27 [o_push (.int (-1))] (t_iret Post) := by
  refine SS.cons (so_iconst hX d_G_next_27 (by decide)) ?_
  exact st_iret hX d_G_next_28 rfl
theorem b_G_next_29 {l : Launch} {D : va_G} {cid : Nat → ClassId} {X : CT} {Post : PT} (hX : OK l D cid m_G_next X Post) : SS l D cid m_G_next X 29 [o_aload 0, o_iload 1, o_put okI 3 5, o_aload 0, o_aload 2, o_callV l D cid m_G_receive 3 1] (t_iret Post) := by
  refine SS.cons (so_aload_n hX d_G_next_29 rfl) ?_
  refine SS.cons (so_iload_n hX d_G_next_30 rfl) ?_
  refine SS.cons (so_put (C := R_G) (T := T_G) ok_I hX d_G_next_31 in_G ty_G nm_G rfl (by decide) k_164 rfl rfl) ?_
  refine SS.cons (so_aload_n hX d_G_next_34 rfl) ?_
  refine SS.cons (so_aload_n hX d_G_next_35 rfl) ?_
  refine SS.cons (so_callV (M' := m_G_receive) (T := T_G) hX d_G_next_36 rfl k_290 k_287 k_289 k_8 k_45 pf_G_receive (by decide) (by decide +kernel) ⟨by decide, by decide⟩) ?_
  exact st_iret hX d_G_next_39 rfl
abbrev m_G_remind : MT := (⟨"GroupLog", "remind", "(I)Z"⟩, prog_1_method_5_code, 2, (some FieldType.boolean), { frames := 4, cells := 5, slots := 40, locals := 89 })
theorem pf_G_remind : plainFor m_G_remind.1 = true := by decide +kernel
theorem d_G_remind_0 : decode prog_1_method_5_code 0 = .ok (.aload_n 0, 1) := by decide +kernel
theorem d_G_remind_1 : decode prog_1_method_5_code 1 = .ok (.iload_n 1, 1) := by decide +kernel
theorem d_G_remind_2 : decode prog_1_method_5_code 2 = .ok (.invokevirtual 44, 3) := by decide +kernel
theorem d_G_remind_5 : decode prog_1_method_5_code 5 = .ok (.ifCond .eq 16, 3) := by decide +kernel
theorem d_G_remind_8 : decode prog_1_method_5_code 8 = .ok (.aload_n 0, 1) := by decide +kernel
theorem d_G_remind_9 : decode prog_1_method_5_code 9 = .ok (.aload_n 0, 1) := by decide +kernel
theorem d_G_remind_10 : decode prog_1_method_5_code 10 = .ok (.getfield 37, 3) := by decide +kernel
theorem d_G_remind_13 : decode prog_1_method_5_code 13 = .ok (.iload_n 1, 1) := by decide +kernel
theorem d_G_remind_14 : decode prog_1_method_5_code 14 = .ok (.aaload, 1) := by decide +kernel
theorem d_G_remind_15 : decode prog_1_method_5_code 15 = .ok (.invokevirtual 51, 3) := by decide +kernel
theorem d_G_remind_18 : decode prog_1_method_5_code 18 = .ok (.ifCond .ne 5, 3) := by decide +kernel
theorem d_G_remind_21 : decode prog_1_method_5_code 21 = .ok (.iconst 0, 1) := by decide +kernel
theorem d_G_remind_22 : decode prog_1_method_5_code 22 = .ok (.ireturn, 1) := by decide +kernel
theorem d_G_remind_23 : decode prog_1_method_5_code 23 = .ok (.aload_n 0, 1) := by decide +kernel
theorem d_G_remind_24 : decode prog_1_method_5_code 24 = .ok (.aload_n 0, 1) := by decide +kernel
theorem d_G_remind_25 : decode prog_1_method_5_code 25 = .ok (.getfield 37, 3) := by decide +kernel
theorem d_G_remind_28 : decode prog_1_method_5_code 28 = .ok (.iload_n 1, 1) := by decide +kernel
theorem d_G_remind_29 : decode prog_1_method_5_code 29 = .ok (.aaload, 1) := by decide +kernel
theorem d_G_remind_30 : decode prog_1_method_5_code 30 = .ok (.iconst 1, 1) := by decide +kernel
theorem d_G_remind_31 : decode prog_1_method_5_code 31 = .ok (.invokevirtual 79, 3) := by decide +kernel
theorem d_G_remind_34 : decode prog_1_method_5_code 34 = .ok (.iconst 1, 1) := by decide +kernel
theorem d_G_remind_35 : decode prog_1_method_5_code 35 = .ok (.ireturn, 1) := by decide +kernel
theorem b_G_remind_0 {l : Launch} {D : va_G} {cid : Nat → ClassId} {X : CT} {Post : PT} (hX : OK l D cid m_G_remind X Post) : SS l D cid m_G_remind X 0 [o_aload 0, o_iload 1, o_callV l D cid m_G_isReplica 3 1] (t_if (fun x => x = 0) (FR l D cid m_G_remind X 21) (FR l D cid m_G_remind X 8)) := by
  refine SS.cons (so_aload_n hX d_G_remind_0 rfl) ?_
  refine SS.cons (so_iload_n hX d_G_remind_1 rfl) ?_
  refine SS.cons (so_callV (M' := m_G_isReplica) (T := T_G) hX d_G_remind_2 rfl k_191 k_188 k_190 k_0 k_45 pf_G_isReplica (by decide) (by decide +kernel) ⟨by decide, by decide⟩) ?_
  exact st_if_eq hX d_G_remind_5 (by decide)
theorem b_G_remind_8 {l : Launch} {D : va_G} {cid : Nat → ClassId} {X : CT} {Post : PT} (hX : OK l D cid m_G_remind X Post) : SS l D cid m_G_remind X 8 [o_aload 0, o_aload 0, o_getf 3 2, o_iload 1, o_aldq 3, o_callV l D cid m_G_leads 3 1] (t_if (fun x => ¬ x = 0) (FR l D cid m_G_remind X 23) (FR l D cid m_G_remind X 21)) := by
  refine SS.cons (so_aload_n hX d_G_remind_8 rfl) ?_
  refine SS.cons (so_aload_n hX d_G_remind_9 rfl) ?_
  refine SS.cons (so_getf (C := R_G) (T := T_G) hX d_G_remind_10 in_G rfl (by decide) k_161) ?_
  refine SS.cons (so_iload_n hX d_G_remind_13 rfl) ?_
  refine SS.cons (so_aldq hX d_G_remind_14 rfl) ?_
  refine SS.cons (so_callV (M' := m_G_leads) (T := T_G) hX d_G_remind_15 rfl k_198 k_195 k_197 k_1 k_45 pf_G_leads (by decide) (by decide +kernel) ⟨by decide, by decide⟩) ?_
  exact st_if_ne hX d_G_remind_18 (by decide)
theorem b_G_remind_21 {l : Launch} {D : va_G} {cid : Nat → ClassId} {X : CT} {Post : PT} (hX : OK l D cid m_G_remind X Post) : SS l D cid m_G_remind X 21 [o_push (.int 0)] (t_zret Post) := by
  refine SS.cons (so_iconst hX d_G_remind_21 (by decide)) ?_
  exact st_zret hX d_G_remind_22 rfl
theorem b_G_remind_23 {l : Launch} {D : va_G} {cid : Nat → ClassId} {X : CT} {Post : PT} (hX : OK l D cid m_G_remind X Post) : SS l D cid m_G_remind X 23 [o_aload 0, o_aload 0, o_getf 3 2, o_iload 1, o_aldq 3, o_push (.int 1), o_callV l D cid m_G_sendToAll 3 2, o_push (.int 1)] (t_zret Post) := by
  refine SS.cons (so_aload_n hX d_G_remind_23 rfl) ?_
  refine SS.cons (so_aload_n hX d_G_remind_24 rfl) ?_
  refine SS.cons (so_getf (C := R_G) (T := T_G) hX d_G_remind_25 in_G rfl (by decide) k_161) ?_
  refine SS.cons (so_iload_n hX d_G_remind_28 rfl) ?_
  refine SS.cons (so_aldq hX d_G_remind_29 rfl) ?_
  refine SS.cons (so_iconst hX d_G_remind_30 (by decide)) ?_
  refine SS.cons (so_callV (M' := m_G_sendToAll) (T := T_G) hX d_G_remind_31 rfl k_232 k_229 k_231 k_5 k_45 pf_G_sendToAll (by decide) (by decide +kernel) ⟨by decide, by decide⟩) ?_
  refine SS.cons (so_iconst hX d_G_remind_34 (by decide)) ?_
  exact st_zret hX d_G_remind_35 rfl
abbrev m_G_suspect : MT := (⟨"GroupLog", "suspect", "(I)Z"⟩, prog_1_method_6_code, 3, (some FieldType.boolean), { frames := 5, cells := 5, slots := 40, locals := 111 })
theorem pf_G_suspect : plainFor m_G_suspect.1 = true := by decide +kernel
theorem d_G_suspect_0 : decode prog_1_method_6_code 0 = .ok (.aload_n 0, 1) := by decide +kernel
theorem d_G_suspect_1 : decode prog_1_method_6_code 1 = .ok (.iload_n 1, 1) := by decide +kernel
theorem d_G_suspect_2 : decode prog_1_method_6_code 2 = .ok (.invokevirtual 44, 3) := by decide +kernel
theorem d_G_suspect_5 : decode prog_1_method_6_code 5 = .ok (.ifCond .ne 5, 3) := by decide +kernel
theorem d_G_suspect_8 : decode prog_1_method_6_code 8 = .ok (.iconst 0, 1) := by decide +kernel
theorem d_G_suspect_9 : decode prog_1_method_6_code 9 = .ok (.ireturn, 1) := by decide +kernel
theorem d_G_suspect_10 : decode prog_1_method_6_code 10 = .ok (.aload_n 0, 1) := by decide +kernel
theorem d_G_suspect_11 : decode prog_1_method_6_code 11 = .ok (.getfield 37, 3) := by decide +kernel
theorem d_G_suspect_14 : decode prog_1_method_6_code 14 = .ok (.iload_n 1, 1) := by decide +kernel
theorem d_G_suspect_15 : decode prog_1_method_6_code 15 = .ok (.aaload, 1) := by decide +kernel
theorem d_G_suspect_16 : decode prog_1_method_6_code 16 = .ok (.astore_n 2, 1) := by decide +kernel
theorem d_G_suspect_17 : decode prog_1_method_6_code 17 = .ok (.aload_n 2, 1) := by decide +kernel
theorem d_G_suspect_18 : decode prog_1_method_6_code 18 = .ok (.getfield 97, 3) := by decide +kernel
theorem d_G_suspect_21 : decode prog_1_method_6_code 21 = .ok (.ifCond .eq 13, 3) := by decide +kernel
theorem d_G_suspect_24 : decode prog_1_method_6_code 24 = .ok (.aload_n 2, 1) := by decide +kernel
theorem d_G_suspect_25 : decode prog_1_method_6_code 25 = .ok (.getfield 97, 3) := by decide +kernel
theorem d_G_suspect_28 : decode prog_1_method_6_code 28 = .ok (.iconst 1, 1) := by decide +kernel
theorem d_G_suspect_29 : decode prog_1_method_6_code 29 = .ok (.if_icmp .eq 5, 3) := by decide +kernel
theorem d_G_suspect_32 : decode prog_1_method_6_code 32 = .ok (.iconst 0, 1) := by decide +kernel
theorem d_G_suspect_33 : decode prog_1_method_6_code 33 = .ok (.ireturn, 1) := by decide +kernel
theorem d_G_suspect_34 : decode prog_1_method_6_code 34 = .ok (.aload_n 0, 1) := by decide +kernel
theorem d_G_suspect_35 : decode prog_1_method_6_code 35 = .ok (.aload_n 2, 1) := by decide +kernel
theorem d_G_suspect_36 : decode prog_1_method_6_code 36 = .ok (.aload_n 2, 1) := by decide +kernel
theorem d_G_suspect_37 : decode prog_1_method_6_code 37 = .ok (.getfield 100, 3) := by decide +kernel
theorem d_G_suspect_40 : decode prog_1_method_6_code 40 = .ok (.iconst 1, 1) := by decide +kernel
theorem d_G_suspect_41 : decode prog_1_method_6_code 41 = .ok (.iadd, 1) := by decide +kernel
theorem d_G_suspect_42 : decode prog_1_method_6_code 42 = .ok (.invokevirtual 103, 3) := by decide +kernel
theorem d_G_suspect_45 : decode prog_1_method_6_code 45 = .ok (.iconst 1, 1) := by decide +kernel
theorem d_G_suspect_46 : decode prog_1_method_6_code 46 = .ok (.ireturn, 1) := by decide +kernel
theorem b_G_suspect_0 {l : Launch} {D : va_G} {cid : Nat → ClassId} {X : CT} {Post : PT} (hX : OK l D cid m_G_suspect X Post) : SS l D cid m_G_suspect X 0 [o_aload 0, o_iload 1, o_callV l D cid m_G_isReplica 3 1] (t_if (fun x => ¬ x = 0) (FR l D cid m_G_suspect X 10) (FR l D cid m_G_suspect X 8)) := by
  refine SS.cons (so_aload_n hX d_G_suspect_0 rfl) ?_
  refine SS.cons (so_iload_n hX d_G_suspect_1 rfl) ?_
  refine SS.cons (so_callV (M' := m_G_isReplica) (T := T_G) hX d_G_suspect_2 rfl k_191 k_188 k_190 k_0 k_45 pf_G_isReplica (by decide) (by decide +kernel) ⟨by decide, by decide⟩) ?_
  exact st_if_ne hX d_G_suspect_5 (by decide)
theorem b_G_suspect_8 {l : Launch} {D : va_G} {cid : Nat → ClassId} {X : CT} {Post : PT} (hX : OK l D cid m_G_suspect X Post) : SS l D cid m_G_suspect X 8 [o_push (.int 0)] (t_zret Post) := by
  refine SS.cons (so_iconst hX d_G_suspect_8 (by decide)) ?_
  exact st_zret hX d_G_suspect_9 rfl
theorem b_G_suspect_10 {l : Launch} {D : va_G} {cid : Nat → ClassId} {X : CT} {Post : PT} (hX : OK l D cid m_G_suspect X Post) : SS l D cid m_G_suspect X 10 [o_aload 0, o_getf 3 2, o_iload 1, o_aldq 3, o_astore 2, o_aload 2, o_getf 2 1] (t_if (fun x => x = 0) (FR l D cid m_G_suspect X 34) (FR l D cid m_G_suspect X 24)) := by
  refine SS.cons (so_aload_n hX d_G_suspect_10 rfl) ?_
  refine SS.cons (so_getf (C := R_G) (T := T_G) hX d_G_suspect_11 in_G rfl (by decide) k_161) ?_
  refine SS.cons (so_iload_n hX d_G_suspect_14 rfl) ?_
  refine SS.cons (so_aldq hX d_G_suspect_15 rfl) ?_
  refine SS.cons (so_astore_n hX d_G_suspect_16 rfl (by decide)) ?_
  refine SS.cons (so_aload_n hX d_G_suspect_17 rfl) ?_
  refine SS.cons (so_getf (C := R_P) (T := T_P) hX d_G_suspect_18 in_P rfl (by decide) k_105) ?_
  exact st_if_eq hX d_G_suspect_21 (by decide)
theorem b_G_suspect_24 {l : Launch} {D : va_G} {cid : Nat → ClassId} {X : CT} {Post : PT} (hX : OK l D cid m_G_suspect X Post) : SS l D cid m_G_suspect X 24 [o_aload 2, o_getf 2 1, o_push (.int 1)] (t_cmp (fun x y => x = y) (FR l D cid m_G_suspect X 34) (FR l D cid m_G_suspect X 32)) := by
  refine SS.cons (so_aload_n hX d_G_suspect_24 rfl) ?_
  refine SS.cons (so_getf (C := R_P) (T := T_P) hX d_G_suspect_25 in_P rfl (by decide) k_105) ?_
  refine SS.cons (so_iconst hX d_G_suspect_28 (by decide)) ?_
  exact st_icmp_eq hX d_G_suspect_29 (by decide)
theorem b_G_suspect_32 {l : Launch} {D : va_G} {cid : Nat → ClassId} {X : CT} {Post : PT} (hX : OK l D cid m_G_suspect X Post) : SS l D cid m_G_suspect X 32 [o_push (.int 0)] (t_zret Post) := by
  refine SS.cons (so_iconst hX d_G_suspect_32 (by decide)) ?_
  exact st_zret hX d_G_suspect_33 rfl
theorem b_G_suspect_34 {l : Launch} {D : va_G} {cid : Nat → ClassId} {X : CT} {Post : PT} (hX : OK l D cid m_G_suspect X Post) : SS l D cid m_G_suspect X 34 [o_aload 0, o_aload 2, o_aload 2, o_getf 2 2, o_push (.int 1), o_bin (fun x y => x + y), o_callV l D cid m_G_startChanging 3 2, o_push (.int 1)] (t_zret Post) := by
  refine SS.cons (so_aload_n hX d_G_suspect_34 rfl) ?_
  refine SS.cons (so_aload_n hX d_G_suspect_35 rfl) ?_
  refine SS.cons (so_aload_n hX d_G_suspect_36 rfl) ?_
  refine SS.cons (so_getf (C := R_P) (T := T_P) hX d_G_suspect_37 in_P rfl (by decide) k_108) ?_
  refine SS.cons (so_iconst hX d_G_suspect_40 (by decide)) ?_
  refine SS.cons (so_iadd hX d_G_suspect_41) ?_
  refine SS.cons (so_callV (M' := m_G_startChanging) (T := T_G) hX d_G_suspect_42 rfl k_364 k_361 k_363 k_16 k_45 pf_G_startChanging (by decide) (by decide +kernel) ⟨by decide, by decide⟩) ?_
  refine SS.cons (so_iconst hX d_G_suspect_45 (by decide)) ?_
  exact st_zret hX d_G_suspect_46 rfl
abbrev m_G_isLost : MT := (⟨"GroupLog", "isLost", "(LGroupLog$Replica;)Z"⟩, prog_1_method_26_code, 1, (some FieldType.boolean), { frames := 0, cells := 0, slots := 0, locals := 0 })
theorem pf_G_isLost : plainFor m_G_isLost.1 = true := by decide +kernel
theorem d_G_isLost_0 : decode prog_1_method_26_code 0 = .ok (.aload_n 0, 1) := by decide +kernel
theorem d_G_isLost_1 : decode prog_1_method_26_code 1 = .ok (.getfield 97, 3) := by decide +kernel
theorem d_G_isLost_4 : decode prog_1_method_26_code 4 = .ok (.iconst 3, 1) := by decide +kernel
theorem d_G_isLost_5 : decode prog_1_method_26_code 5 = .ok (.if_icmp .eq 11, 3) := by decide +kernel
theorem d_G_isLost_8 : decode prog_1_method_26_code 8 = .ok (.aload_n 0, 1) := by decide +kernel
theorem d_G_isLost_9 : decode prog_1_method_26_code 9 = .ok (.getfield 97, 3) := by decide +kernel
theorem d_G_isLost_12 : decode prog_1_method_26_code 12 = .ok (.iconst 2, 1) := by decide +kernel
theorem d_G_isLost_13 : decode prog_1_method_26_code 13 = .ok (.if_icmp .ne 7, 3) := by decide +kernel
theorem d_G_isLost_16 : decode prog_1_method_26_code 16 = .ok (.iconst 1, 1) := by decide +kernel
theorem d_G_isLost_17 : decode prog_1_method_26_code 17 = .ok (.goto 4, 3) := by decide +kernel
theorem d_G_isLost_20 : decode prog_1_method_26_code 20 = .ok (.iconst 0, 1) := by decide +kernel
theorem d_G_isLost_21 : decode prog_1_method_26_code 21 = .ok (.ireturn, 1) := by decide +kernel
theorem b_G_isLost_0 {l : Launch} {D : va_G} {cid : Nat → ClassId} {X : CT} {Post : PT} (hX : OK l D cid m_G_isLost X Post) : SS l D cid m_G_isLost X 0 [o_aload 0, o_getf 2 1, o_push (.int 3)] (t_cmp (fun x y => x = y) (FR l D cid m_G_isLost X 16) (FR l D cid m_G_isLost X 8)) := by
  refine SS.cons (so_aload_n hX d_G_isLost_0 rfl) ?_
  refine SS.cons (so_getf (C := R_P) (T := T_P) hX d_G_isLost_1 in_P rfl (by decide) k_105) ?_
  refine SS.cons (so_iconst hX d_G_isLost_4 (by decide)) ?_
  exact st_icmp_eq hX d_G_isLost_5 (by decide)
theorem b_G_isLost_8 {l : Launch} {D : va_G} {cid : Nat → ClassId} {X : CT} {Post : PT} (hX : OK l D cid m_G_isLost X Post) : SS l D cid m_G_isLost X 8 [o_aload 0, o_getf 2 1, o_push (.int 2)] (t_cmp (fun x y => ¬ x = y) (FR l D cid m_G_isLost X 20) (FR l D cid m_G_isLost X 16)) := by
  refine SS.cons (so_aload_n hX d_G_isLost_8 rfl) ?_
  refine SS.cons (so_getf (C := R_P) (T := T_P) hX d_G_isLost_9 in_P rfl (by decide) k_105) ?_
  refine SS.cons (so_iconst hX d_G_isLost_12 (by decide)) ?_
  exact st_icmp_ne hX d_G_isLost_13 (by decide)
theorem b_G_isLost_16 {l : Launch} {D : va_G} {cid : Nat → ClassId} {X : CT} {Post : PT} (hX : OK l D cid m_G_isLost X Post) : SS l D cid m_G_isLost X 16 [o_push (.int 1)] (FR l D cid m_G_isLost X 21) := by
  refine SS.cons (so_iconst hX d_G_isLost_16 (by decide)) ?_
  exact so_goto hX d_G_isLost_17 (by decide)
theorem b_G_isLost_20 {l : Launch} {D : va_G} {cid : Nat → ClassId} {X : CT} {Post : PT} (hX : OK l D cid m_G_isLost X Post) : SS l D cid m_G_isLost X 20 [o_push (.int 0)] (FR l D cid m_G_isLost X 21) := by
  refine SS.cons (so_iconst hX d_G_isLost_20 (by decide)) ?_
  exact SS.fall
theorem b_G_isLost_21 {l : Launch} {D : va_G} {cid : Nat → ClassId} {X : CT} {Post : PT} (hX : OK l D cid m_G_isLost X Post) : SS l D cid m_G_isLost X 21 [] (t_zret Post) := by
  exact st_zret hX d_G_isLost_21 rfl
abbrev m_G_othersLost : MT := (⟨"GroupLog", "othersLost", "(LGroupLog$Replica;)I"⟩, prog_1_method_27_code, 4, (some FieldType.int), { frames := 1, cells := 0, slots := 0, locals := 20 })
theorem pf_G_othersLost : plainFor m_G_othersLost.1 = true := by decide +kernel
theorem d_G_othersLost_0 : decode prog_1_method_27_code 0 = .ok (.iconst 0, 1) := by decide +kernel
theorem d_G_othersLost_1 : decode prog_1_method_27_code 1 = .ok (.istore_n 2, 1) := by decide +kernel
theorem d_G_othersLost_2 : decode prog_1_method_27_code 2 = .ok (.iconst 0, 1) := by decide +kernel
theorem d_G_othersLost_3 : decode prog_1_method_27_code 3 = .ok (.istore_n 3, 1) := by decide +kernel
theorem d_G_othersLost_4 : decode prog_1_method_27_code 4 = .ok (.iload_n 3, 1) := by decide +kernel
theorem d_G_othersLost_5 : decode prog_1_method_27_code 5 = .ok (.aload_n 0, 1) := by decide +kernel
theorem d_G_othersLost_6 : decode prog_1_method_27_code 6 = .ok (.getfield 29, 3) := by decide +kernel
theorem d_G_othersLost_9 : decode prog_1_method_27_code 9 = .ok (.if_icmp .ge 32, 3) := by decide +kernel
theorem d_G_othersLost_12 : decode prog_1_method_27_code 12 = .ok (.iload_n 3, 1) := by decide +kernel
theorem d_G_othersLost_13 : decode prog_1_method_27_code 13 = .ok (.aload_n 1, 1) := by decide +kernel
theorem d_G_othersLost_14 : decode prog_1_method_27_code 14 = .ok (.getfield 122, 3) := by decide +kernel
theorem d_G_othersLost_17 : decode prog_1_method_27_code 17 = .ok (.if_icmp .eq 18, 3) := by decide +kernel
theorem d_G_othersLost_20 : decode prog_1_method_27_code 20 = .ok (.aload_n 0, 1) := by decide +kernel
theorem d_G_othersLost_21 : decode prog_1_method_27_code 21 = .ok (.getfield 37, 3) := by decide +kernel
theorem d_G_othersLost_24 : decode prog_1_method_27_code 24 = .ok (.iload_n 3, 1) := by decide +kernel
theorem d_G_othersLost_25 : decode prog_1_method_27_code 25 = .ok (.aaload, 1) := by decide +kernel
theorem d_G_othersLost_26 : decode prog_1_method_27_code 26 = .ok (.invokestatic 113, 3) := by decide +kernel
theorem d_G_othersLost_29 : decode prog_1_method_27_code 29 = .ok (.ifCond .eq 6, 3) := by decide +kernel
theorem d_G_othersLost_32 : decode prog_1_method_27_code 32 = .ok (.iinc 2 1, 3) := by decide +kernel
theorem d_G_othersLost_35 : decode prog_1_method_27_code 35 = .ok (.iinc 3 1, 3) := by decide +kernel
theorem d_G_othersLost_38 : decode prog_1_method_27_code 38 = .ok (.goto (-34), 3) := by decide +kernel
theorem d_G_othersLost_41 : decode prog_1_method_27_code 41 = .ok (.iload_n 2, 1) := by decide +kernel
theorem d_G_othersLost_42 : decode prog_1_method_27_code 42 = .ok (.ireturn, 1) := by decide +kernel
theorem b_G_othersLost_0 {l : Launch} {D : va_G} {cid : Nat → ClassId} {X : CT} {Post : PT} (hX : OK l D cid m_G_othersLost X Post) : SS l D cid m_G_othersLost X 0 [o_push (.int 0), o_istore 2, o_push (.int 0), o_istore 3] (FR l D cid m_G_othersLost X 4) := by
  refine SS.cons (so_iconst hX d_G_othersLost_0 (by decide)) ?_
  refine SS.cons (so_istore_n hX d_G_othersLost_1 rfl (by decide)) ?_
  refine SS.cons (so_iconst hX d_G_othersLost_2 (by decide)) ?_
  refine SS.cons (so_istore_n hX d_G_othersLost_3 rfl (by decide)) ?_
  exact SS.fall
theorem b_G_othersLost_4 {l : Launch} {D : va_G} {cid : Nat → ClassId} {X : CT} {Post : PT} (hX : OK l D cid m_G_othersLost X Post) : SS l D cid m_G_othersLost X 4 [o_iload 3, o_aload 0, o_getf 3 0] (t_cmp (fun x y => y ≤ x) (FR l D cid m_G_othersLost X 41) (FR l D cid m_G_othersLost X 12)) := by
  refine SS.cons (so_iload_n hX d_G_othersLost_4 rfl) ?_
  refine SS.cons (so_aload_n hX d_G_othersLost_5 rfl) ?_
  refine SS.cons (so_getf (C := R_G) (T := T_G) hX d_G_othersLost_6 in_G rfl (by decide) k_159) ?_
  exact st_icmp_ge hX d_G_othersLost_9 (by decide)
theorem b_G_othersLost_12 {l : Launch} {D : va_G} {cid : Nat → ClassId} {X : CT} {Post : PT} (hX : OK l D cid m_G_othersLost X Post) : SS l D cid m_G_othersLost X 12 [o_iload 3, o_aload 1, o_getf 2 0] (t_cmp (fun x y => x = y) (FR l D cid m_G_othersLost X 35) (FR l D cid m_G_othersLost X 20)) := by
  refine SS.cons (so_iload_n hX d_G_othersLost_12 rfl) ?_
  refine SS.cons (so_aload_n hX d_G_othersLost_13 rfl) ?_
  refine SS.cons (so_getf (C := R_P) (T := T_P) hX d_G_othersLost_14 in_P rfl (by decide) k_103) ?_
  exact st_icmp_eq hX d_G_othersLost_17 (by decide)
theorem b_G_othersLost_20 {l : Launch} {D : va_G} {cid : Nat → ClassId} {X : CT} {Post : PT} (hX : OK l D cid m_G_othersLost X Post) : SS l D cid m_G_othersLost X 20 [o_aload 0, o_getf 3 2, o_iload 3, o_aldq 3, o_callS l D cid m_G_isLost 1] (t_if (fun x => x = 0) (FR l D cid m_G_othersLost X 35) (FR l D cid m_G_othersLost X 32)) := by
  refine SS.cons (so_aload_n hX d_G_othersLost_20 rfl) ?_
  refine SS.cons (so_getf (C := R_G) (T := T_G) hX d_G_othersLost_21 in_G rfl (by decide) k_161) ?_
  refine SS.cons (so_iload_n hX d_G_othersLost_24 rfl) ?_
  refine SS.cons (so_aldq hX d_G_othersLost_25 rfl) ?_
  refine SS.cons (so_callS (M' := m_G_isLost) hX d_G_othersLost_26 k_415 k_413 k_414 k_45 pf_G_isLost (by decide) (by decide +kernel) ⟨by decide, by decide⟩) ?_
  exact st_if_eq hX d_G_othersLost_29 (by decide)
theorem b_G_othersLost_32 {l : Launch} {D : va_G} {cid : Nat → ClassId} {X : CT} {Post : PT} (hX : OK l D cid m_G_othersLost X Post) : SS l D cid m_G_othersLost X 32 [o_iinc 2 1] (FR l D cid m_G_othersLost X 35) := by
  refine SS.cons (so_iinc hX d_G_othersLost_32 (by decide) (by decide)) ?_
  exact SS.fall
theorem b_G_othersLost_35 {l : Launch} {D : va_G} {cid : Nat → ClassId} {X : CT} {Post : PT} (hX : OK l D cid m_G_othersLost X Post) : SS l D cid m_G_othersLost X 35 [o_iinc 3 1] (FR l D cid m_G_othersLost X 4) := by
  refine SS.cons (so_iinc hX d_G_othersLost_35 (by decide) (by decide)) ?_
  exact so_goto hX d_G_othersLost_38 (by decide)
theorem b_G_othersLost_41 {l : Launch} {D : va_G} {cid : Nat → ClassId} {X : CT} {Post : PT} (hX : OK l D cid m_G_othersLost X Post) : SS l D cid m_G_othersLost X 41 [o_iload 2] (t_iret Post) := by
  refine SS.cons (so_iload_n hX d_G_othersLost_41 rfl) ?_
  exact st_iret hX d_G_othersLost_42 rfl
abbrev m_G_crash : MT := (⟨"GroupLog", "crash", "(I)Z"⟩, prog_1_method_7_code, 3, (some FieldType.boolean), { frames := 3, cells := 2, slots := 70, locals := 60 })
theorem pf_G_crash : plainFor m_G_crash.1 = true := by decide +kernel
theorem d_G_crash_0 : decode prog_1_method_7_code 0 = .ok (.aload_n 0, 1) := by decide +kernel
theorem d_G_crash_1 : decode prog_1_method_7_code 1 = .ok (.iload_n 1, 1) := by decide +kernel
theorem d_G_crash_2 : decode prog_1_method_7_code 2 = .ok (.invokevirtual 44, 3) := by decide +kernel
theorem d_G_crash_5 : decode prog_1_method_7_code 5 = .ok (.ifCond .ne 5, 3) := by decide +kernel
theorem d_G_crash_8 : decode prog_1_method_7_code 8 = .ok (.iconst 0, 1) := by decide +kernel
theorem d_G_crash_9 : decode prog_1_method_7_code 9 = .ok (.ireturn, 1) := by decide +kernel
theorem d_G_crash_10 : decode prog_1_method_7_code 10 = .ok (.aload_n 0, 1) := by decide +kernel
theorem d_G_crash_11 : decode prog_1_method_7_code 11 = .ok (.getfield 37, 3) := by decide +kernel
theorem d_G_crash_14 : decode prog_1_method_7_code 14 = .ok (.iload_n 1, 1) := by decide +kernel
theorem d_G_crash_15 : decode prog_1_method_7_code 15 = .ok (.aaload, 1) := by decide +kernel
theorem d_G_crash_16 : decode prog_1_method_7_code 16 = .ok (.astore_n 2, 1) := by decide +kernel
theorem d_G_crash_17 : decode prog_1_method_7_code 17 = .ok (.aload_n 2, 1) := by decide +kernel
theorem d_G_crash_18 : decode prog_1_method_7_code 18 = .ok (.getfield 97, 3) := by decide +kernel
theorem d_G_crash_21 : decode prog_1_method_7_code 21 = .ok (.iconst 3, 1) := by decide +kernel
theorem d_G_crash_22 : decode prog_1_method_7_code 22 = .ok (.if_icmp .eq 15, 3) := by decide +kernel
theorem d_G_crash_25 : decode prog_1_method_7_code 25 = .ok (.aload_n 0, 1) := by decide +kernel
theorem d_G_crash_26 : decode prog_1_method_7_code 26 = .ok (.aload_n 2, 1) := by decide +kernel
theorem d_G_crash_27 : decode prog_1_method_7_code 27 = .ok (.invokevirtual 106, 3) := by decide +kernel
theorem d_G_crash_30 : decode prog_1_method_7_code 30 = .ok (.aload_n 0, 1) := by decide +kernel
theorem d_G_crash_31 : decode prog_1_method_7_code 31 = .ok (.getfield 32, 3) := by decide +kernel
theorem d_G_crash_34 : decode prog_1_method_7_code 34 = .ok (.if_icmp .lt 5, 3) := by decide +kernel
theorem d_G_crash_37 : decode prog_1_method_7_code 37 = .ok (.iconst 0, 1) := by decide +kernel
theorem d_G_crash_38 : decode prog_1_method_7_code 38 = .ok (.ireturn, 1) := by decide +kernel
theorem d_G_crash_39 : decode prog_1_method_7_code 39 = .ok (.aload_n 2, 1) := by decide +kernel
theorem d_G_crash_40 : decode prog_1_method_7_code 40 = .ok (.invokevirtual 110, 3) := by decide +kernel
theorem d_G_crash_43 : decode prog_1_method_7_code 43 = .ok (.aload_n 2, 1) := by decide +kernel
theorem d_G_crash_44 : decode prog_1_method_7_code 44 = .ok (.iconst 3, 1) := by decide +kernel
theorem d_G_crash_45 : decode prog_1_method_7_code 45 = .ok (.putfield 97, 3) := by decide +kernel
theorem d_G_crash_48 : decode prog_1_method_7_code 48 = .ok (.iconst 1, 1) := by decide +kernel
theorem d_G_crash_49 : decode prog_1_method_7_code 49 = .ok (.ireturn, 1) := by decide +kernel
theorem b_G_crash_0 {l : Launch} {D : va_G} {cid : Nat → ClassId} {X : CT} {Post : PT} (hX : OK l D cid m_G_crash X Post) : SS l D cid m_G_crash X 0 [o_aload 0, o_iload 1, o_callV l D cid m_G_isReplica 3 1] (t_if (fun x => ¬ x = 0) (FR l D cid m_G_crash X 10) (FR l D cid m_G_crash X 8)) := by
  refine SS.cons (so_aload_n hX d_G_crash_0 rfl) ?_
  refine SS.cons (so_iload_n hX d_G_crash_1 rfl) ?_
  refine SS.cons (so_callV (M' := m_G_isReplica) (T := T_G) hX d_G_crash_2 rfl k_191 k_188 k_190 k_0 k_45 pf_G_isReplica (by decide) (by decide +kernel) ⟨by decide, by decide⟩) ?_
  exact st_if_ne hX d_G_crash_5 (by decide)
theorem b_G_crash_8 {l : Launch} {D : va_G} {cid : Nat → ClassId} {X : CT} {Post : PT} (hX : OK l D cid m_G_crash X Post) : SS l D cid m_G_crash X 8 [o_push (.int 0)] (t_zret Post) := by
  refine SS.cons (so_iconst hX d_G_crash_8 (by decide)) ?_
  exact st_zret hX d_G_crash_9 rfl
theorem b_G_crash_10 {l : Launch} {D : va_G} {cid : Nat → ClassId} {X : CT} {Post : PT} (hX : OK l D cid m_G_crash X Post) : SS l D cid m_G_crash X 10 [o_aload 0, o_getf 3 2, o_iload 1, o_aldq 3, o_astore 2, o_aload 2, o_getf 2 1, o_push (.int 3)] (t_cmp (fun x y => x = y) (FR l D cid m_G_crash X 37) (FR l D cid m_G_crash X 25)) := by
  refine SS.cons (so_aload_n hX d_G_crash_10 rfl) ?_
  refine SS.cons (so_getf (C := R_G) (T := T_G) hX d_G_crash_11 in_G rfl (by decide) k_161) ?_
  refine SS.cons (so_iload_n hX d_G_crash_14 rfl) ?_
  refine SS.cons (so_aldq hX d_G_crash_15 rfl) ?_
  refine SS.cons (so_astore_n hX d_G_crash_16 rfl (by decide)) ?_
  refine SS.cons (so_aload_n hX d_G_crash_17 rfl) ?_
  refine SS.cons (so_getf (C := R_P) (T := T_P) hX d_G_crash_18 in_P rfl (by decide) k_105) ?_
  refine SS.cons (so_iconst hX d_G_crash_21 (by decide)) ?_
  exact st_icmp_eq hX d_G_crash_22 (by decide)
theorem b_G_crash_25 {l : Launch} {D : va_G} {cid : Nat → ClassId} {X : CT} {Post : PT} (hX : OK l D cid m_G_crash X Post) : SS l D cid m_G_crash X 25 [o_aload 0, o_aload 2, o_callV l D cid m_G_othersLost 3 1, o_aload 0, o_getf 3 1] (t_cmp (fun x y => x < y) (FR l D cid m_G_crash X 39) (FR l D cid m_G_crash X 37)) := by
  refine SS.cons (so_aload_n hX d_G_crash_25 rfl) ?_
  refine SS.cons (so_aload_n hX d_G_crash_26 rfl) ?_
  refine SS.cons (so_callV (M' := m_G_othersLost) (T := T_G) hX d_G_crash_27 rfl k_412 k_409 k_411 k_20 k_45 pf_G_othersLost (by decide) (by decide +kernel) ⟨by decide, by decide⟩) ?_
  refine SS.cons (so_aload_n hX d_G_crash_30 rfl) ?_
  refine SS.cons (so_getf (C := R_G) (T := T_G) hX d_G_crash_31 in_G rfl (by decide) k_160) ?_
  exact st_icmp_lt hX d_G_crash_34 (by decide)
theorem b_G_crash_37 {l : Launch} {D : va_G} {cid : Nat → ClassId} {X : CT} {Post : PT} (hX : OK l D cid m_G_crash X Post) : SS l D cid m_G_crash X 37 [o_push (.int 0)] (t_zret Post) := by
  refine SS.cons (so_iconst hX d_G_crash_37 (by decide)) ?_
  exact st_zret hX d_G_crash_38 rfl
theorem b_G_crash_39 {l : Launch} {D : va_G} {cid : Nat → ClassId} {X : CT} {Post : PT} (hX : OK l D cid m_G_crash X Post) : SS l D cid m_G_crash X 39 [o_aload 2, o_callV l D cid m_P_forgetEverything 2 0, o_aload 2, o_push (.int 3), o_put okI 2 1, o_push (.int 1)] (t_zret Post) := by
  refine SS.cons (so_aload_n hX d_G_crash_39 rfl) ?_
  refine SS.cons (so_callV (M' := m_P_forgetEverything) (T := T_P) hX d_G_crash_40 rfl k_419 k_416 k_417 k_418 k_46 pf_P_forgetEverything (by decide) (by decide +kernel) ⟨by decide, by decide⟩) ?_
  refine SS.cons (so_aload_n hX d_G_crash_43 rfl) ?_
  refine SS.cons (so_iconst hX d_G_crash_44 (by decide)) ?_
  refine SS.cons (so_put (C := R_P) (T := T_P) ok_I hX d_G_crash_45 in_P ty_P nm_P rfl (by decide) k_105 rfl rfl) ?_
  refine SS.cons (so_iconst hX d_G_crash_48 (by decide)) ?_
  exact st_zret hX d_G_crash_49 rfl
abbrev m_G_recover : MT := (⟨"GroupLog", "recover", "(II)Z"⟩, prog_1_method_8_code, 4, (some FieldType.boolean), { frames := 4, cells := 7, slots := 110, locals := 89 })
theorem pf_G_recover : plainFor m_G_recover.1 = true := by decide +kernel
theorem d_G_recover_0 : decode prog_1_method_8_code 0 = .ok (.aload_n 0, 1) := by decide +kernel
theorem d_G_recover_1 : decode prog_1_method_8_code 1 = .ok (.iload_n 1, 1) := by decide +kernel
theorem d_G_recover_2 : decode prog_1_method_8_code 2 = .ok (.invokevirtual 44, 3) := by decide +kernel
theorem d_G_recover_5 : decode prog_1_method_8_code 5 = .ok (.ifCond .ne 5, 3) := by decide +kernel
theorem d_G_recover_8 : decode prog_1_method_8_code 8 = .ok (.iconst 0, 1) := by decide +kernel
theorem d_G_recover_9 : decode prog_1_method_8_code 9 = .ok (.ireturn, 1) := by decide +kernel
theorem d_G_recover_10 : decode prog_1_method_8_code 10 = .ok (.aload_n 0, 1) := by decide +kernel
theorem d_G_recover_11 : decode prog_1_method_8_code 11 = .ok (.getfield 37, 3) := by decide +kernel
theorem d_G_recover_14 : decode prog_1_method_8_code 14 = .ok (.iload_n 1, 1) := by decide +kernel
theorem d_G_recover_15 : decode prog_1_method_8_code 15 = .ok (.aaload, 1) := by decide +kernel
theorem d_G_recover_16 : decode prog_1_method_8_code 16 = .ok (.astore_n 3, 1) := by decide +kernel
theorem d_G_recover_17 : decode prog_1_method_8_code 17 = .ok (.aload_n 3, 1) := by decide +kernel
theorem d_G_recover_18 : decode prog_1_method_8_code 18 = .ok (.invokestatic 113, 3) := by decide +kernel
theorem d_G_recover_21 : decode prog_1_method_8_code 21 = .ok (.ifCond .eq 11, 3) := by decide +kernel
theorem d_G_recover_24 : decode prog_1_method_8_code 24 = .ok (.iload_n 2, 1) := by decide +kernel
theorem d_G_recover_25 : decode prog_1_method_8_code 25 = .ok (.aload_n 3, 1) := by decide +kernel
theorem d_G_recover_26 : decode prog_1_method_8_code 26 = .ok (.getfield 116, 3) := by decide +kernel
theorem d_G_recover_29 : decode prog_1_method_8_code 29 = .ok (.if_icmp .gt 5, 3) := by decide +kernel
theorem d_G_recover_32 : decode prog_1_method_8_code 32 = .ok (.iconst 0, 1) := by decide +kernel
theorem d_G_recover_33 : decode prog_1_method_8_code 33 = .ok (.ireturn, 1) := by decide +kernel
theorem d_G_recover_34 : decode prog_1_method_8_code 34 = .ok (.aload_n 3, 1) := by decide +kernel
theorem d_G_recover_35 : decode prog_1_method_8_code 35 = .ok (.iload_n 2, 1) := by decide +kernel
theorem d_G_recover_36 : decode prog_1_method_8_code 36 = .ok (.putfield 116, 3) := by decide +kernel
theorem d_G_recover_39 : decode prog_1_method_8_code 39 = .ok (.aload_n 3, 1) := by decide +kernel
theorem d_G_recover_40 : decode prog_1_method_8_code 40 = .ok (.invokevirtual 110, 3) := by decide +kernel
theorem d_G_recover_43 : decode prog_1_method_8_code 43 = .ok (.aload_n 3, 1) := by decide +kernel
theorem d_G_recover_44 : decode prog_1_method_8_code 44 = .ok (.iconst 2, 1) := by decide +kernel
theorem d_G_recover_45 : decode prog_1_method_8_code 45 = .ok (.putfield 97, 3) := by decide +kernel
theorem d_G_recover_48 : decode prog_1_method_8_code 48 = .ok (.aload_n 3, 1) := by decide +kernel
theorem d_G_recover_49 : decode prog_1_method_8_code 49 = .ok (.getfield 119, 3) := by decide +kernel
theorem d_G_recover_52 : decode prog_1_method_8_code 52 = .ok (.aload_n 3, 1) := by decide +kernel
theorem d_G_recover_53 : decode prog_1_method_8_code 53 = .ok (.getfield 122, 3) := by decide +kernel
theorem d_G_recover_56 : decode prog_1_method_8_code 56 = .ok (.iload_n 2, 1) := by decide +kernel
theorem d_G_recover_57 : decode prog_1_method_8_code 57 = .ok (.iastore, 1) := by decide +kernel
theorem d_G_recover_58 : decode prog_1_method_8_code 58 = .ok (.aload_n 0, 1) := by decide +kernel
theorem d_G_recover_59 : decode prog_1_method_8_code 59 = .ok (.aload_n 3, 1) := by decide +kernel
theorem d_G_recover_60 : decode prog_1_method_8_code 60 = .ok (.bipush 7, 2) := by decide +kernel
theorem d_G_recover_62 : decode prog_1_method_8_code 62 = .ok (.invokevirtual 79, 3) := by decide +kernel
theorem d_G_recover_65 : decode prog_1_method_8_code 65 = .ok (.iconst 1, 1) := by decide +kernel
theorem d_G_recover_66 : decode prog_1_method_8_code 66 = .ok (.ireturn, 1) := by decide +kernel
theorem b_G_recover_0 {l : Launch} {D : va_G} {cid : Nat → ClassId} {X : CT} {Post : PT} (hX : OK l D cid m_G_recover X Post) : SS l D cid m_G_recover X 0 [o_aload 0, o_iload 1, o_callV l D cid m_G_isReplica 3 1] (t_if (fun x => ¬ x = 0) (FR l D cid m_G_recover X 10) (FR l D cid m_G_recover X 8)) := by
  refine SS.cons (so_aload_n hX d_G_recover_0 rfl) ?_
  refine SS.cons (so_iload_n hX d_G_recover_1 rfl) ?_
  refine SS.cons (so_callV (M' := m_G_isReplica) (T := T_G) hX d_G_recover_2 rfl k_191 k_188 k_190 k_0 k_45 pf_G_isReplica (by decide) (by decide +kernel) ⟨by decide, by decide⟩) ?_
  exact st_if_ne hX d_G_recover_5 (by decide)
theorem b_G_recover_8 {l : Launch} {D : va_G} {cid : Nat → ClassId} {X : CT} {Post : PT} (hX : OK l D cid m_G_recover X Post) : SS l D cid m_G_recover X 8 [o_push (.int 0)] (t_zret Post) := by
  refine SS.cons (so_iconst hX d_G_recover_8 (by decide)) ?_
  exact st_zret hX d_G_recover_9 rfl
theorem b_G_recover_10 {l : Launch} {D : va_G} {cid : Nat → ClassId} {X : CT} {Post : PT} (hX : OK l D cid m_G_recover X Post) : SS l D cid m_G_recover X 10 [o_aload 0, o_getf 3 2, o_iload 1, o_aldq 3, o_astore 3, o_aload 3, o_callS l D cid m_G_isLost 1] (t_if (fun x => x = 0) (FR l D cid m_G_recover X 32) (FR l D cid m_G_recover X 24)) := by
  refine SS.cons (so_aload_n hX d_G_recover_10 rfl) ?_
  refine SS.cons (so_getf (C := R_G) (T := T_G) hX d_G_recover_11 in_G rfl (by decide) k_161) ?_
  refine SS.cons (so_iload_n hX d_G_recover_14 rfl) ?_
  refine SS.cons (so_aldq hX d_G_recover_15 rfl) ?_
  refine SS.cons (so_astore_n hX d_G_recover_16 rfl (by decide)) ?_
  refine SS.cons (so_aload_n hX d_G_recover_17 rfl) ?_
  refine SS.cons (so_callS (M' := m_G_isLost) hX d_G_recover_18 k_415 k_413 k_414 k_45 pf_G_isLost (by decide) (by decide +kernel) ⟨by decide, by decide⟩) ?_
  exact st_if_eq hX d_G_recover_21 (by decide)
theorem b_G_recover_24 {l : Launch} {D : va_G} {cid : Nat → ClassId} {X : CT} {Post : PT} (hX : OK l D cid m_G_recover X Post) : SS l D cid m_G_recover X 24 [o_iload 2, o_aload 3, o_getf 2 12] (t_cmp (fun x y => y < x) (FR l D cid m_G_recover X 34) (FR l D cid m_G_recover X 32)) := by
  refine SS.cons (so_iload_n hX d_G_recover_24 rfl) ?_
  refine SS.cons (so_aload_n hX d_G_recover_25 rfl) ?_
  refine SS.cons (so_getf (C := R_P) (T := T_P) hX d_G_recover_26 in_P rfl (by decide) k_131) ?_
  exact st_icmp_gt hX d_G_recover_29 (by decide)
theorem b_G_recover_32 {l : Launch} {D : va_G} {cid : Nat → ClassId} {X : CT} {Post : PT} (hX : OK l D cid m_G_recover X Post) : SS l D cid m_G_recover X 32 [o_push (.int 0)] (t_zret Post) := by
  refine SS.cons (so_iconst hX d_G_recover_32 (by decide)) ?_
  exact st_zret hX d_G_recover_33 rfl
theorem b_G_recover_34 {l : Launch} {D : va_G} {cid : Nat → ClassId} {X : CT} {Post : PT} (hX : OK l D cid m_G_recover X Post) : SS l D cid m_G_recover X 34 [o_aload 3, o_iload 2, o_put okI 2 12, o_aload 3, o_callV l D cid m_P_forgetEverything 2 0, o_aload 3, o_push (.int 2), o_put okI 2 1, o_aload 3, o_getf 2 6, o_aload 3, o_getf 2 0, o_iload 2, o_ast, o_aload 0, o_aload 3, o_push (.int 7), o_callV l D cid m_G_sendToAll 3 2, o_push (.int 1)] (t_zret Post) := by
  refine SS.cons (so_aload_n hX d_G_recover_34 rfl) ?_
  refine SS.cons (so_iload_n hX d_G_recover_35 rfl) ?_
  refine SS.cons (so_put (C := R_P) (T := T_P) ok_I hX d_G_recover_36 in_P ty_P nm_P rfl (by decide) k_131 rfl rfl) ?_
  refine SS.cons (so_aload_n hX d_G_recover_39 rfl) ?_
  refine SS.cons (so_callV (M' := m_P_forgetEverything) (T := T_P) hX d_G_recover_40 rfl k_419 k_416 k_417 k_418 k_46 pf_P_forgetEverything (by decide) (by decide +kernel) ⟨by decide, by decide⟩) ?_
  refine SS.cons (so_aload_n hX d_G_recover_43 rfl) ?_
  refine SS.cons (so_iconst hX d_G_recover_44 (by decide)) ?_
  refine SS.cons (so_put (C := R_P) (T := T_P) ok_I hX d_G_recover_45 in_P ty_P nm_P rfl (by decide) k_105 rfl rfl) ?_
  refine SS.cons (so_aload_n hX d_G_recover_48 rfl) ?_
  refine SS.cons (so_getf (C := R_P) (T := T_P) hX d_G_recover_49 in_P rfl (by decide) k_119) ?_
  refine SS.cons (so_aload_n hX d_G_recover_52 rfl) ?_
  refine SS.cons (so_getf (C := R_P) (T := T_P) hX d_G_recover_53 in_P rfl (by decide) k_103) ?_
  refine SS.cons (so_iload_n hX d_G_recover_56 rfl) ?_
  refine SS.cons (so_iast hX d_G_recover_57) ?_
  refine SS.cons (so_aload_n hX d_G_recover_58 rfl) ?_
  refine SS.cons (so_aload_n hX d_G_recover_59 rfl) ?_
  refine SS.cons (so_bipush hX d_G_recover_60 (by decide)) ?_
  refine SS.cons (so_callV (M' := m_G_sendToAll) (T := T_G) hX d_G_recover_62 rfl k_232 k_229 k_231 k_5 k_45 pf_G_sendToAll (by decide) (by decide +kernel) ⟨by decide, by decide⟩) ?_
  refine SS.cons (so_iconst hX d_G_recover_65 (by decide)) ?_
  exact st_zret hX d_G_recover_66 rfl
abbrev m_G_status : MT := (⟨"GroupLog", "status", "(I)I"⟩, prog_1_method_9_code, 2, (some FieldType.int), { frames := 1, cells := 0, slots := 0, locals := 21 })
theorem pf_G_status : plainFor m_G_status.1 = true := by decide +kernel
theorem d_G_status_0 : decode prog_1_method_9_code 0 = .ok (.aload_n 0, 1) := by decide +kernel
theorem d_G_status_1 : decode prog_1_method_9_code 1 = .ok (.iload_n 1, 1) := by decide +kernel
theorem d_G_status_2 : decode prog_1_method_9_code 2 = .ok (.invokevirtual 44, 3) := by decide +kernel
theorem d_G_status_5 : decode prog_1_method_9_code 5 = .ok (.ifCond .eq 15, 3) := by decide +kernel
theorem d_G_status_8 : decode prog_1_method_9_code 8 = .ok (.aload_n 0, 1) := by decide +kernel
theorem d_G_status_9 : decode prog_1_method_9_code 9 = .ok (.getfield 37, 3) := by decide +kernel
theorem d_G_status_12 : decode prog_1_method_9_code 12 = .ok (.iload_n 1, 1) := by decide +kernel
theorem d_G_status_13 : decode prog_1_method_9_code 13 = .ok (.aaload, 1) := by decide +kernel
theorem d_G_status_14 : decode prog_1_method_9_code 14 = .ok (.getfield 97, 3) := by decide +kernel
theorem d_G_status_17 : decode prog_1_method_9_code 17 = .ok (.goto 4, 3) := by decide +kernel
theorem d_G_status_20 : decode prog_1_method_9_code 20 = .ok (.iconst (-1), 1) := by decide +kernel
theorem d_G_status_21 : decode prog_1_method_9_code 21 = .ok (.ireturn, 1) := by decide +kernel
theorem b_G_status_0 {l : Launch} {D : va_G} {cid : Nat → ClassId} {X : CT} {Post : PT} (hX : OK l D cid m_G_status X Post) : SS l D cid m_G_status X 0 [o_aload 0, o_iload 1, o_callV l D cid m_G_isReplica 3 1] (t_if (fun x => x = 0) (FR l D cid m_G_status X 20) (FR l D cid m_G_status X 8)) := by
  refine SS.cons (so_aload_n hX d_G_status_0 rfl) ?_
  refine SS.cons (so_iload_n hX d_G_status_1 rfl) ?_
  refine SS.cons (so_callV (M' := m_G_isReplica) (T := T_G) hX d_G_status_2 rfl k_191 k_188 k_190 k_0 k_45 pf_G_isReplica (by decide) (by decide +kernel) ⟨by decide, by decide⟩) ?_
  exact st_if_eq hX d_G_status_5 (by decide)
theorem b_G_status_8 {l : Launch} {D : va_G} {cid : Nat → ClassId} {X : CT} {Post : PT} (hX : OK l D cid m_G_status X Post) : SS l D cid m_G_status X 8 [o_aload 0, o_getf 3 2, o_iload 1, o_aldq 3, o_getf 2 1] (FR l D cid m_G_status X 21) := by
  refine SS.cons (so_aload_n hX d_G_status_8 rfl) ?_
  refine SS.cons (so_getf (C := R_G) (T := T_G) hX d_G_status_9 in_G rfl (by decide) k_161) ?_
  refine SS.cons (so_iload_n hX d_G_status_12 rfl) ?_
  refine SS.cons (so_aldq hX d_G_status_13 rfl) ?_
  refine SS.cons (so_getf (C := R_P) (T := T_P) hX d_G_status_14 in_P rfl (by decide) k_105) ?_
  exact so_goto hX d_G_status_17 (by decide)
theorem b_G_status_20 {l : Launch} {D : va_G} {cid : Nat → ClassId} {X : CT} {Post : PT} (hX : OK l D cid m_G_status X Post) : SS l D cid m_G_status X 20 [o_push (.int (-1))] (FR l D cid m_G_status X 21) := by
  refine SS.cons (so_iconst hX d_G_status_20 (by decide)) ?_
  exact SS.fall
theorem b_G_status_21 {l : Launch} {D : va_G} {cid : Nat → ClassId} {X : CT} {Post : PT} (hX : OK l D cid m_G_status X Post) : SS l D cid m_G_status X 21 [] (t_iret Post) := by
  exact st_iret hX d_G_status_21 rfl
abbrev m_G_view : MT := (⟨"GroupLog", "view", "(I)I"⟩, prog_1_method_10_code, 2, (some FieldType.int), { frames := 1, cells := 0, slots := 0, locals := 21 })
theorem pf_G_view : plainFor m_G_view.1 = true := by decide +kernel
theorem d_G_view_0 : decode prog_1_method_10_code 0 = .ok (.aload_n 0, 1) := by decide +kernel
theorem d_G_view_1 : decode prog_1_method_10_code 1 = .ok (.iload_n 1, 1) := by decide +kernel
theorem d_G_view_2 : decode prog_1_method_10_code 2 = .ok (.invokevirtual 44, 3) := by decide +kernel
theorem d_G_view_5 : decode prog_1_method_10_code 5 = .ok (.ifCond .eq 15, 3) := by decide +kernel
theorem d_G_view_8 : decode prog_1_method_10_code 8 = .ok (.aload_n 0, 1) := by decide +kernel
theorem d_G_view_9 : decode prog_1_method_10_code 9 = .ok (.getfield 37, 3) := by decide +kernel
theorem d_G_view_12 : decode prog_1_method_10_code 12 = .ok (.iload_n 1, 1) := by decide +kernel
theorem d_G_view_13 : decode prog_1_method_10_code 13 = .ok (.aaload, 1) := by decide +kernel
theorem d_G_view_14 : decode prog_1_method_10_code 14 = .ok (.getfield 100, 3) := by decide +kernel
theorem d_G_view_17 : decode prog_1_method_10_code 17 = .ok (.goto 4, 3) := by decide +kernel
theorem d_G_view_20 : decode prog_1_method_10_code 20 = .ok (.iconst (-1), 1) := by decide +kernel
theorem d_G_view_21 : decode prog_1_method_10_code 21 = .ok (.ireturn, 1) := by decide +kernel
theorem b_G_view_0 {l : Launch} {D : va_G} {cid : Nat → ClassId} {X : CT} {Post : PT} (hX : OK l D cid m_G_view X Post) : SS l D cid m_G_view X 0 [o_aload 0, o_iload 1, o_callV l D cid m_G_isReplica 3 1] (t_if (fun x => x = 0) (FR l D cid m_G_view X 20) (FR l D cid m_G_view X 8)) := by
  refine SS.cons (so_aload_n hX d_G_view_0 rfl) ?_
  refine SS.cons (so_iload_n hX d_G_view_1 rfl) ?_
  refine SS.cons (so_callV (M' := m_G_isReplica) (T := T_G) hX d_G_view_2 rfl k_191 k_188 k_190 k_0 k_45 pf_G_isReplica (by decide) (by decide +kernel) ⟨by decide, by decide⟩) ?_
  exact st_if_eq hX d_G_view_5 (by decide)
theorem b_G_view_8 {l : Launch} {D : va_G} {cid : Nat → ClassId} {X : CT} {Post : PT} (hX : OK l D cid m_G_view X Post) : SS l D cid m_G_view X 8 [o_aload 0, o_getf 3 2, o_iload 1, o_aldq 3, o_getf 2 2] (FR l D cid m_G_view X 21) := by
  refine SS.cons (so_aload_n hX d_G_view_8 rfl) ?_
  refine SS.cons (so_getf (C := R_G) (T := T_G) hX d_G_view_9 in_G rfl (by decide) k_161) ?_
  refine SS.cons (so_iload_n hX d_G_view_12 rfl) ?_
  refine SS.cons (so_aldq hX d_G_view_13 rfl) ?_
  refine SS.cons (so_getf (C := R_P) (T := T_P) hX d_G_view_14 in_P rfl (by decide) k_108) ?_
  exact so_goto hX d_G_view_17 (by decide)
theorem b_G_view_20 {l : Launch} {D : va_G} {cid : Nat → ClassId} {X : CT} {Post : PT} (hX : OK l D cid m_G_view X Post) : SS l D cid m_G_view X 20 [o_push (.int (-1))] (FR l D cid m_G_view X 21) := by
  refine SS.cons (so_iconst hX d_G_view_20 (by decide)) ?_
  exact SS.fall
theorem b_G_view_21 {l : Launch} {D : va_G} {cid : Nat → ClassId} {X : CT} {Post : PT} (hX : OK l D cid m_G_view X Post) : SS l D cid m_G_view X 21 [] (t_iret Post) := by
  exact st_iret hX d_G_view_21 rfl
abbrev m_G_length : MT := (⟨"GroupLog", "length", "(I)I"⟩, prog_1_method_11_code, 2, (some FieldType.int), { frames := 1, cells := 0, slots := 0, locals := 21 })
theorem pf_G_length : plainFor m_G_length.1 = true := by decide +kernel
theorem d_G_length_0 : decode prog_1_method_11_code 0 = .ok (.aload_n 0, 1) := by decide +kernel
theorem d_G_length_1 : decode prog_1_method_11_code 1 = .ok (.iload_n 1, 1) := by decide +kernel
theorem d_G_length_2 : decode prog_1_method_11_code 2 = .ok (.invokevirtual 44, 3) := by decide +kernel
theorem d_G_length_5 : decode prog_1_method_11_code 5 = .ok (.ifCond .eq 18, 3) := by decide +kernel
theorem d_G_length_8 : decode prog_1_method_11_code 8 = .ok (.aload_n 0, 1) := by decide +kernel
theorem d_G_length_9 : decode prog_1_method_11_code 9 = .ok (.getfield 37, 3) := by decide +kernel
theorem d_G_length_12 : decode prog_1_method_11_code 12 = .ok (.iload_n 1, 1) := by decide +kernel
theorem d_G_length_13 : decode prog_1_method_11_code 13 = .ok (.aaload, 1) := by decide +kernel
theorem d_G_length_14 : decode prog_1_method_11_code 14 = .ok (.getfield 55, 3) := by decide +kernel
theorem d_G_length_17 : decode prog_1_method_11_code 17 = .ok (.getfield 73, 3) := by decide +kernel
theorem d_G_length_20 : decode prog_1_method_11_code 20 = .ok (.goto 4, 3) := by decide +kernel
theorem d_G_length_23 : decode prog_1_method_11_code 23 = .ok (.iconst (-1), 1) := by decide +kernel
theorem d_G_length_24 : decode prog_1_method_11_code 24 = .ok (.ireturn, 1) := by decide +kernel
theorem b_G_length_0 {l : Launch} {D : va_G} {cid : Nat → ClassId} {X : CT} {Post : PT} (hX : OK l D cid m_G_length X Post) : SS l D cid m_G_length X 0 [o_aload 0, o_iload 1, o_callV l D cid m_G_isReplica 3 1] (t_if (fun x => x = 0) (FR l D cid m_G_length X 23) (FR l D cid m_G_length X 8)) := by
  refine SS.cons (so_aload_n hX d_G_length_0 rfl) ?_
  refine SS.cons (so_iload_n hX d_G_length_1 rfl) ?_
  refine SS.cons (so_callV (M' := m_G_isReplica) (T := T_G) hX d_G_length_2 rfl k_191 k_188 k_190 k_0 k_45 pf_G_isReplica (by decide) (by decide +kernel) ⟨by decide, by decide⟩) ?_
  exact st_if_eq hX d_G_length_5 (by decide)
theorem b_G_length_8 {l : Launch} {D : va_G} {cid : Nat → ClassId} {X : CT} {Post : PT} (hX : OK l D cid m_G_length X Post) : SS l D cid m_G_length X 8 [o_aload 0, o_getf 3 2, o_iload 1, o_aldq 3, o_getf 2 4, o_getf 0 1] (FR l D cid m_G_length X 24) := by
  refine SS.cons (so_aload_n hX d_G_length_8 rfl) ?_
  refine SS.cons (so_getf (C := R_G) (T := T_G) hX d_G_length_9 in_G rfl (by decide) k_161) ?_
  refine SS.cons (so_iload_n hX d_G_length_12 rfl) ?_
  refine SS.cons (so_aldq hX d_G_length_13 rfl) ?_
  refine SS.cons (so_getf (C := R_P) (T := T_P) hX d_G_length_14 in_P rfl (by decide) k_113) ?_
  refine SS.cons (so_getf (C := R_L) (T := T_L) hX d_G_length_17 in_L rfl (by decide) k_76) ?_
  exact so_goto hX d_G_length_20 (by decide)
theorem b_G_length_23 {l : Launch} {D : va_G} {cid : Nat → ClassId} {X : CT} {Post : PT} (hX : OK l D cid m_G_length X Post) : SS l D cid m_G_length X 23 [o_push (.int (-1))] (FR l D cid m_G_length X 24) := by
  refine SS.cons (so_iconst hX d_G_length_23 (by decide)) ?_
  exact SS.fall
theorem b_G_length_24 {l : Launch} {D : va_G} {cid : Nat → ClassId} {X : CT} {Post : PT} (hX : OK l D cid m_G_length X Post) : SS l D cid m_G_length X 24 [] (t_iret Post) := by
  exact st_iret hX d_G_length_24 rfl
abbrev m_G_commit : MT := (⟨"GroupLog", "commit", "(I)I"⟩, prog_1_method_12_code, 2, (some FieldType.int), { frames := 1, cells := 0, slots := 0, locals := 21 })
theorem pf_G_commit : plainFor m_G_commit.1 = true := by decide +kernel
theorem d_G_commit_0 : decode prog_1_method_12_code 0 = .ok (.aload_n 0, 1) := by decide +kernel
theorem d_G_commit_1 : decode prog_1_method_12_code 1 = .ok (.iload_n 1, 1) := by decide +kernel
theorem d_G_commit_2 : decode prog_1_method_12_code 2 = .ok (.invokevirtual 44, 3) := by decide +kernel
theorem d_G_commit_5 : decode prog_1_method_12_code 5 = .ok (.ifCond .eq 15, 3) := by decide +kernel
theorem d_G_commit_8 : decode prog_1_method_12_code 8 = .ok (.aload_n 0, 1) := by decide +kernel
theorem d_G_commit_9 : decode prog_1_method_12_code 9 = .ok (.getfield 37, 3) := by decide +kernel
theorem d_G_commit_12 : decode prog_1_method_12_code 12 = .ok (.iload_n 1, 1) := by decide +kernel
theorem d_G_commit_13 : decode prog_1_method_12_code 13 = .ok (.aaload, 1) := by decide +kernel
theorem d_G_commit_14 : decode prog_1_method_12_code 14 = .ok (.getfield 125, 3) := by decide +kernel
theorem d_G_commit_17 : decode prog_1_method_12_code 17 = .ok (.goto 4, 3) := by decide +kernel
theorem d_G_commit_20 : decode prog_1_method_12_code 20 = .ok (.iconst (-1), 1) := by decide +kernel
theorem d_G_commit_21 : decode prog_1_method_12_code 21 = .ok (.ireturn, 1) := by decide +kernel
theorem b_G_commit_0 {l : Launch} {D : va_G} {cid : Nat → ClassId} {X : CT} {Post : PT} (hX : OK l D cid m_G_commit X Post) : SS l D cid m_G_commit X 0 [o_aload 0, o_iload 1, o_callV l D cid m_G_isReplica 3 1] (t_if (fun x => x = 0) (FR l D cid m_G_commit X 20) (FR l D cid m_G_commit X 8)) := by
  refine SS.cons (so_aload_n hX d_G_commit_0 rfl) ?_
  refine SS.cons (so_iload_n hX d_G_commit_1 rfl) ?_
  refine SS.cons (so_callV (M' := m_G_isReplica) (T := T_G) hX d_G_commit_2 rfl k_191 k_188 k_190 k_0 k_45 pf_G_isReplica (by decide) (by decide +kernel) ⟨by decide, by decide⟩) ?_
  exact st_if_eq hX d_G_commit_5 (by decide)
theorem b_G_commit_8 {l : Launch} {D : va_G} {cid : Nat → ClassId} {X : CT} {Post : PT} (hX : OK l D cid m_G_commit X Post) : SS l D cid m_G_commit X 8 [o_aload 0, o_getf 3 2, o_iload 1, o_aldq 3, o_getf 2 5] (FR l D cid m_G_commit X 21) := by
  refine SS.cons (so_aload_n hX d_G_commit_8 rfl) ?_
  refine SS.cons (so_getf (C := R_G) (T := T_G) hX d_G_commit_9 in_G rfl (by decide) k_161) ?_
  refine SS.cons (so_iload_n hX d_G_commit_12 rfl) ?_
  refine SS.cons (so_aldq hX d_G_commit_13 rfl) ?_
  refine SS.cons (so_getf (C := R_P) (T := T_P) hX d_G_commit_14 in_P rfl (by decide) k_116) ?_
  exact so_goto hX d_G_commit_17 (by decide)
theorem b_G_commit_20 {l : Launch} {D : va_G} {cid : Nat → ClassId} {X : CT} {Post : PT} (hX : OK l D cid m_G_commit X Post) : SS l D cid m_G_commit X 20 [o_push (.int (-1))] (FR l D cid m_G_commit X 21) := by
  refine SS.cons (so_iconst hX d_G_commit_20 (by decide)) ?_
  exact SS.fall
theorem b_G_commit_21 {l : Launch} {D : va_G} {cid : Nat → ClassId} {X : CT} {Post : PT} (hX : OK l D cid m_G_commit X Post) : SS l D cid m_G_commit X 21 [] (t_iret Post) := by
  exact st_iret hX d_G_commit_21 rfl
abbrev m_G_hasEntry : MT := (⟨"GroupLog", "hasEntry", "(II)Z"⟩, prog_1_method_23_code, 3, (some FieldType.boolean), { frames := 1, cells := 0, slots := 0, locals := 21 })
theorem pf_G_hasEntry : plainFor m_G_hasEntry.1 = true := by decide +kernel
theorem d_G_hasEntry_0 : decode prog_1_method_23_code 0 = .ok (.aload_n 0, 1) := by decide +kernel
theorem d_G_hasEntry_1 : decode prog_1_method_23_code 1 = .ok (.iload_n 1, 1) := by decide +kernel
theorem d_G_hasEntry_2 : decode prog_1_method_23_code 2 = .ok (.invokevirtual 44, 3) := by decide +kernel
theorem d_G_hasEntry_5 : decode prog_1_method_23_code 5 = .ok (.ifCond .eq 27, 3) := by decide +kernel
theorem d_G_hasEntry_8 : decode prog_1_method_23_code 8 = .ok (.iload_n 2, 1) := by decide +kernel
theorem d_G_hasEntry_9 : decode prog_1_method_23_code 9 = .ok (.ifCond .lt 23, 3) := by decide +kernel
theorem d_G_hasEntry_12 : decode prog_1_method_23_code 12 = .ok (.iload_n 2, 1) := by decide +kernel
theorem d_G_hasEntry_13 : decode prog_1_method_23_code 13 = .ok (.aload_n 0, 1) := by decide +kernel
theorem d_G_hasEntry_14 : decode prog_1_method_23_code 14 = .ok (.getfield 37, 3) := by decide +kernel
theorem d_G_hasEntry_17 : decode prog_1_method_23_code 17 = .ok (.iload_n 1, 1) := by decide +kernel
theorem d_G_hasEntry_18 : decode prog_1_method_23_code 18 = .ok (.aaload, 1) := by decide +kernel
theorem d_G_hasEntry_19 : decode prog_1_method_23_code 19 = .ok (.getfield 55, 3) := by decide +kernel
theorem d_G_hasEntry_22 : decode prog_1_method_23_code 22 = .ok (.getfield 73, 3) := by decide +kernel
theorem d_G_hasEntry_25 : decode prog_1_method_23_code 25 = .ok (.if_icmp .ge 7, 3) := by decide +kernel
theorem d_G_hasEntry_28 : decode prog_1_method_23_code 28 = .ok (.iconst 1, 1) := by decide +kernel
theorem d_G_hasEntry_29 : decode prog_1_method_23_code 29 = .ok (.goto 4, 3) := by decide +kernel
theorem d_G_hasEntry_32 : decode prog_1_method_23_code 32 = .ok (.iconst 0, 1) := by decide +kernel
theorem d_G_hasEntry_33 : decode prog_1_method_23_code 33 = .ok (.ireturn, 1) := by decide +kernel
theorem b_G_hasEntry_0 {l : Launch} {D : va_G} {cid : Nat → ClassId} {X : CT} {Post : PT} (hX : OK l D cid m_G_hasEntry X Post) : SS l D cid m_G_hasEntry X 0 [o_aload 0, o_iload 1, o_callV l D cid m_G_isReplica 3 1] (t_if (fun x => x = 0) (FR l D cid m_G_hasEntry X 32) (FR l D cid m_G_hasEntry X 8)) := by
  refine SS.cons (so_aload_n hX d_G_hasEntry_0 rfl) ?_
  refine SS.cons (so_iload_n hX d_G_hasEntry_1 rfl) ?_
  refine SS.cons (so_callV (M' := m_G_isReplica) (T := T_G) hX d_G_hasEntry_2 rfl k_191 k_188 k_190 k_0 k_45 pf_G_isReplica (by decide) (by decide +kernel) ⟨by decide, by decide⟩) ?_
  exact st_if_eq hX d_G_hasEntry_5 (by decide)
theorem b_G_hasEntry_8 {l : Launch} {D : va_G} {cid : Nat → ClassId} {X : CT} {Post : PT} (hX : OK l D cid m_G_hasEntry X Post) : SS l D cid m_G_hasEntry X 8 [o_iload 2] (t_if (fun x => x < 0) (FR l D cid m_G_hasEntry X 32) (FR l D cid m_G_hasEntry X 12)) := by
  refine SS.cons (so_iload_n hX d_G_hasEntry_8 rfl) ?_
  exact st_if_lt hX d_G_hasEntry_9 (by decide)
theorem b_G_hasEntry_12 {l : Launch} {D : va_G} {cid : Nat → ClassId} {X : CT} {Post : PT} (hX : OK l D cid m_G_hasEntry X Post) : SS l D cid m_G_hasEntry X 12 [o_iload 2, o_aload 0, o_getf 3 2, o_iload 1, o_aldq 3, o_getf 2 4, o_getf 0 1] (t_cmp (fun x y => y ≤ x) (FR l D cid m_G_hasEntry X 32) (FR l D cid m_G_hasEntry X 28)) := by
  refine SS.cons (so_iload_n hX d_G_hasEntry_12 rfl) ?_
  refine SS.cons (so_aload_n hX d_G_hasEntry_13 rfl) ?_
  refine SS.cons (so_getf (C := R_G) (T := T_G) hX d_G_hasEntry_14 in_G rfl (by decide) k_161) ?_
  refine SS.cons (so_iload_n hX d_G_hasEntry_17 rfl) ?_
  refine SS.cons (so_aldq hX d_G_hasEntry_18 rfl) ?_
  refine SS.cons (so_getf (C := R_P) (T := T_P) hX d_G_hasEntry_19 in_P rfl (by decide) k_113) ?_
  refine SS.cons (so_getf (C := R_L) (T := T_L) hX d_G_hasEntry_22 in_L rfl (by decide) k_76) ?_
  exact st_icmp_ge hX d_G_hasEntry_25 (by decide)
theorem b_G_hasEntry_28 {l : Launch} {D : va_G} {cid : Nat → ClassId} {X : CT} {Post : PT} (hX : OK l D cid m_G_hasEntry X Post) : SS l D cid m_G_hasEntry X 28 [o_push (.int 1)] (FR l D cid m_G_hasEntry X 33) := by
  refine SS.cons (so_iconst hX d_G_hasEntry_28 (by decide)) ?_
  exact so_goto hX d_G_hasEntry_29 (by decide)
theorem b_G_hasEntry_32 {l : Launch} {D : va_G} {cid : Nat → ClassId} {X : CT} {Post : PT} (hX : OK l D cid m_G_hasEntry X Post) : SS l D cid m_G_hasEntry X 32 [o_push (.int 0)] (FR l D cid m_G_hasEntry X 33) := by
  refine SS.cons (so_iconst hX d_G_hasEntry_32 (by decide)) ?_
  exact SS.fall
theorem b_G_hasEntry_33 {l : Launch} {D : va_G} {cid : Nat → ClassId} {X : CT} {Post : PT} (hX : OK l D cid m_G_hasEntry X Post) : SS l D cid m_G_hasEntry X 33 [] (t_zret Post) := by
  exact st_zret hX d_G_hasEntry_33 rfl
abbrev m_G_entry : MT := (⟨"GroupLog", "entry", "(II)I"⟩, prog_1_method_13_code, 3, (some FieldType.int), { frames := 2, cells := 0, slots := 0, locals := 43 })
theorem pf_G_entry : plainFor m_G_entry.1 = true := by decide +kernel
theorem d_G_entry_0 : decode prog_1_method_13_code 0 = .ok (.aload_n 0, 1) := by decide +kernel
theorem d_G_entry_1 : decode prog_1_method_13_code 1 = .ok (.iload_n 1, 1) := by decide +kernel
theorem d_G_entry_2 : decode prog_1_method_13_code 2 = .ok (.iload_n 2, 1) := by decide +kernel
theorem d_G_entry_3 : decode prog_1_method_13_code 3 = .ok (.invokevirtual 128, 3) := by decide +kernel
theorem d_G_entry_6 : decode prog_1_method_13_code 6 = .ok (.ifCond .eq 24, 3) := by decide +kernel
theorem d_G_entry_9 : decode prog_1_method_13_code 9 = .ok (.aload_n 0, 1) := by decide +kernel
theorem d_G_entry_10 : decode prog_1_method_13_code 10 = .ok (.getfield 37, 3) := by decide +kernel
theorem d_G_entry_13 : decode prog_1_method_13_code 13 = .ok (.iload_n 1, 1) := by decide +kernel
theorem d_G_entry_14 : decode prog_1_method_13_code 14 = .ok (.aaload, 1) := by decide +kernel
theorem d_G_entry_15 : decode prog_1_method_13_code 15 = .ok (.getfield 55, 3) := by decide +kernel
theorem d_G_entry_18 : decode prog_1_method_13_code 18 = .ok (.iload_n 2, 1) := by decide +kernel
theorem d_G_entry_19 : decode prog_1_method_13_code 19 = .ok (.iconst 1, 1) := by decide +kernel
theorem d_G_entry_20 : decode prog_1_method_13_code 20 = .ok (.iadd, 1) := by decide +kernel
theorem d_G_entry_21 : decode prog_1_method_13_code 21 = .ok (.invokevirtual 132, 3) := by decide +kernel
theorem d_G_entry_24 : decode prog_1_method_13_code 24 = .ok (.getfield 136, 3) := by decide +kernel
theorem d_G_entry_27 : decode prog_1_method_13_code 27 = .ok (.goto 4, 3) := by decide +kernel
theorem d_G_entry_30 : decode prog_1_method_13_code 30 = .ok (.iconst 0, 1) := by decide +kernel
theorem d_G_entry_31 : decode prog_1_method_13_code 31 = .ok (.ireturn, 1) := by decide +kernel
theorem b_G_entry_0 {l : Launch} {D : va_G} {cid : Nat → ClassId} {X : CT} {Post : PT} (hX : OK l D cid m_G_entry X Post) : SS l D cid m_G_entry X 0 [o_aload 0, o_iload 1, o_iload 2, o_callV l D cid m_G_hasEntry 3 2] (t_if (fun x => x = 0) (FR l D cid m_G_entry X 30) (FR l D cid m_G_entry X 9)) := by
  refine SS.cons (so_aload_n hX d_G_entry_0 rfl) ?_
  refine SS.cons (so_iload_n hX d_G_entry_1 rfl) ?_
  refine SS.cons (so_iload_n hX d_G_entry_2 rfl) ?_
  refine SS.cons (so_callV (M' := m_G_hasEntry) (T := T_G) hX d_G_entry_3 rfl k_447 k_444 k_446 k_21 k_45 pf_G_hasEntry (by decide) (by decide +kernel) ⟨by decide, by decide⟩) ?_
  exact st_if_eq hX d_G_entry_6 (by decide)
theorem b_G_entry_9 {l : Launch} {D : va_G} {cid : Nat → ClassId} {X : CT} {Post : PT} (hX : OK l D cid m_G_entry X Post) : SS l D cid m_G_entry X 9 [o_aload 0, o_getf 3 2, o_iload 1, o_aldq 3, o_getf 2 4, o_iload 2, o_push (.int 1), o_bin (fun x y => x + y), o_callV l D cid m_L_firstEntries 0 1, o_getf 0 4] (FR l D cid m_G_entry X 31) := by
  refine SS.cons (so_aload_n hX d_G_entry_9 rfl) ?_
  refine SS.cons (so_getf (C := R_G) (T := T_G) hX d_G_entry_10 in_G rfl (by decide) k_161) ?_
  refine SS.cons (so_iload_n hX d_G_entry_13 rfl) ?_
  refine SS.cons (so_aldq hX d_G_entry_14 rfl) ?_
  refine SS.cons (so_getf (C := R_P) (T := T_P) hX d_G_entry_15 in_P rfl (by decide) k_113) ?_
  refine SS.cons (so_iload_n hX d_G_entry_18 rfl) ?_
  refine SS.cons (so_iconst hX d_G_entry_19 (by decide)) ?_
  refine SS.cons (so_iadd hX d_G_entry_20) ?_
  refine SS.cons (so_callV (M' := m_L_firstEntries) (T := T_L) hX d_G_entry_21 rfl k_340 k_337 k_338 k_339 k_47 pf_L_firstEntries (by decide) (by decide +kernel) ⟨by decide, by decide⟩) ?_
  refine SS.cons (so_getf (C := R_L) (T := T_L) hX d_G_entry_24 in_L rfl (by decide) k_83) ?_
  exact so_goto hX d_G_entry_27 (by decide)
theorem b_G_entry_30 {l : Launch} {D : va_G} {cid : Nat → ClassId} {X : CT} {Post : PT} (hX : OK l D cid m_G_entry X Post) : SS l D cid m_G_entry X 30 [o_push (.int 0)] (FR l D cid m_G_entry X 31) := by
  refine SS.cons (so_iconst hX d_G_entry_30 (by decide)) ?_
  exact SS.fall
theorem b_G_entry_31 {l : Launch} {D : va_G} {cid : Nat → ClassId} {X : CT} {Post : PT} (hX : OK l D cid m_G_entry X Post) : SS l D cid m_G_entry X 31 [] (t_iret Post) := by
  exact st_iret hX d_G_entry_31 rfl
abbrev m_G_origin : MT := (⟨"GroupLog", "origin", "(II)I"⟩, prog_1_method_14_code, 4, (some FieldType.int), { frames := 2, cells := 0, slots := 0, locals := 43 })
theorem pf_G_origin : plainFor m_G_origin.1 = true := by decide +kernel
theorem d_G_origin_0 : decode prog_1_method_14_code 0 = .ok (.aload_n 0, 1) := by decide +kernel
theorem d_G_origin_1 : decode prog_1_method_14_code 1 = .ok (.iload_n 1, 1) := by decide +kernel
theorem d_G_origin_2 : decode prog_1_method_14_code 2 = .ok (.iload_n 2, 1) := by decide +kernel
theorem d_G_origin_3 : decode prog_1_method_14_code 3 = .ok (.invokevirtual 128, 3) := by decide +kernel
theorem d_G_origin_6 : decode prog_1_method_14_code 6 = .ok (.ifCond .ne 5, 3) := by decide +kernel
theorem d_G_origin_9 : decode prog_1_method_14_code 9 = .ok (.iconst (-1), 1) := by decide +kernel
theorem d_G_origin_10 : decode prog_1_method_14_code 10 = .ok (.ireturn, 1) := by decide +kernel
theorem d_G_origin_11 : decode prog_1_method_14_code 11 = .ok (.aload_n 0, 1) := by decide +kernel
theorem d_G_origin_12 : decode prog_1_method_14_code 12 = .ok (.getfield 37, 3) := by decide +kernel
theorem d_G_origin_15 : decode prog_1_method_14_code 15 = .ok (.iload_n 1, 1) := by decide +kernel
theorem d_G_origin_16 : decode prog_1_method_14_code 16 = .ok (.aaload, 1) := by decide +kernel
theorem d_G_origin_17 : decode prog_1_method_14_code 17 = .ok (.getfield 55, 3) := by decide +kernel
theorem d_G_origin_20 : decode prog_1_method_14_code 20 = .ok (.iload_n 2, 1) := by decide +kernel
theorem d_G_origin_21 : decode prog_1_method_14_code 21 = .ok (.iconst 1, 1) := by decide +kernel
theorem d_G_origin_22 : decode prog_1_method_14_code 22 = .ok (.iadd, 1) := by decide +kernel
theorem d_G_origin_23 : decode prog_1_method_14_code 23 = .ok (.invokevirtual 132, 3) := by decide +kernel
theorem d_G_origin_26 : decode prog_1_method_14_code 26 = .ok (.astore_n 3, 1) := by decide +kernel
theorem d_G_origin_27 : decode prog_1_method_14_code 27 = .ok (.aload_n 3, 1) := by decide +kernel
theorem d_G_origin_28 : decode prog_1_method_14_code 28 = .ok (.getfield 139, 3) := by decide +kernel
theorem d_G_origin_31 : decode prog_1_method_14_code 31 = .ok (.iconst 4, 1) := by decide +kernel
theorem d_G_origin_32 : decode prog_1_method_14_code 32 = .ok (.imul, 1) := by decide +kernel
theorem d_G_origin_33 : decode prog_1_method_14_code 33 = .ok (.aload_n 3, 1) := by decide +kernel
theorem d_G_origin_34 : decode prog_1_method_14_code 34 = .ok (.getfield 142, 3) := by decide +kernel
theorem d_G_origin_37 : decode prog_1_method_14_code 37 = .ok (.iadd, 1) := by decide +kernel
theorem d_G_origin_38 : decode prog_1_method_14_code 38 = .ok (.ireturn, 1) := by decide +kernel
theorem b_G_origin_0 {l : Launch} {D : va_G} {cid : Nat → ClassId} {X : CT} {Post : PT} (hX : OK l D cid m_G_origin X Post) : SS l D cid m_G_origin X 0 [o_aload 0, o_iload 1, o_iload 2, o_callV l D cid m_G_hasEntry 3 2] (t_if (fun x => ¬ x = 0) (FR l D cid m_G_origin X 11) (FR l D cid m_G_origin X 9)) := by
  refine SS.cons (so_aload_n hX d_G_origin_0 rfl) ?_
  refine SS.cons (so_iload_n hX d_G_origin_1 rfl) ?_
  refine SS.cons (so_iload_n hX d_G_origin_2 rfl) ?_
  refine SS.cons (so_callV (M' := m_G_hasEntry) (T := T_G) hX d_G_origin_3 rfl k_447 k_444 k_446 k_21 k_45 pf_G_hasEntry (by decide) (by decide +kernel) ⟨by decide, by decide⟩) ?_
  exact st_if_ne hX d_G_origin_6 (by decide)
theorem b_G_origin_9 {l : Launch} {D : va_G} {cid : Nat → ClassId} {X : CT} {Post : PT} (hX : OK l D cid m_G_origin X Post) : SS l D cid m_G_origin X 9 [o_push (.int (-1))] (t_iret Post) := by
  refine SS.cons (so_iconst hX d_G_origin_9 (by decide)) ?_
  exact st_iret hX d_G_origin_10 rfl
theorem b_G_origin_11 {l : Launch} {D : va_G} {cid : Nat → ClassId} {X : CT} {Post : PT} (hX : OK l D cid m_G_origin X Post) : SS l D cid m_G_origin X 11 [o_aload 0, o_getf 3 2, o_iload 1, o_aldq 3, o_getf 2 4, o_iload 2, o_push (.int 1), o_bin (fun x y => x + y), o_callV l D cid m_L_firstEntries 0 1, o_astore 3, o_aload 3, o_getf 0 3, o_push (.int 4), o_bin (fun x y => x * y), o_aload 3, o_getf 0 2, o_bin (fun x y => x + y)] (t_iret Post) := by
  refine SS.cons (so_aload_n hX d_G_origin_11 rfl) ?_
  refine SS.cons (so_getf (C := R_G) (T := T_G) hX d_G_origin_12 in_G rfl (by decide) k_161) ?_
  refine SS.cons (so_iload_n hX d_G_origin_15 rfl) ?_
  refine SS.cons (so_aldq hX d_G_origin_16 rfl) ?_
  refine SS.cons (so_getf (C := R_P) (T := T_P) hX d_G_origin_17 in_P rfl (by decide) k_113) ?_
  refine SS.cons (so_iload_n hX d_G_origin_20 rfl) ?_
  refine SS.cons (so_iconst hX d_G_origin_21 (by decide)) ?_
  refine SS.cons (so_iadd hX d_G_origin_22) ?_
  refine SS.cons (so_callV (M' := m_L_firstEntries) (T := T_L) hX d_G_origin_23 rfl k_340 k_337 k_338 k_339 k_47 pf_L_firstEntries (by decide) (by decide +kernel) ⟨by decide, by decide⟩) ?_
  refine SS.cons (so_astore_n hX d_G_origin_26 rfl (by decide)) ?_
  refine SS.cons (so_aload_n hX d_G_origin_27 rfl) ?_
  refine SS.cons (so_getf (C := R_L) (T := T_L) hX d_G_origin_28 in_L rfl (by decide) k_81) ?_
  refine SS.cons (so_iconst hX d_G_origin_31 (by decide)) ?_
  refine SS.cons (so_imul hX d_G_origin_32) ?_
  refine SS.cons (so_aload_n hX d_G_origin_33 rfl) ?_
  refine SS.cons (so_getf (C := R_L) (T := T_L) hX d_G_origin_34 in_L rfl (by decide) k_79) ?_
  refine SS.cons (so_iadd hX d_G_origin_37) ?_
  exact st_iret hX d_G_origin_38 rfl
abbrev m_G_total : MT := (⟨"GroupLog", "total", "(I)I"⟩, prog_1_method_15_code, 3, (some FieldType.int), { frames := 1, cells := 0, slots := 0, locals := 22 })
theorem pf_G_total : plainFor m_G_total.1 = true := by decide +kernel
theorem d_G_total_0 : decode prog_1_method_15_code 0 = .ok (.aload_n 0, 1) := by decide +kernel
theorem d_G_total_1 : decode prog_1_method_15_code 1 = .ok (.iload_n 1, 1) := by decide +kernel
theorem d_G_total_2 : decode prog_1_method_15_code 2 = .ok (.invokevirtual 44, 3) := by decide +kernel
theorem d_G_total_5 : decode prog_1_method_15_code 5 = .ok (.ifCond .ne 5, 3) := by decide +kernel
theorem d_G_total_8 : decode prog_1_method_15_code 8 = .ok (.iconst 0, 1) := by decide +kernel
theorem d_G_total_9 : decode prog_1_method_15_code 9 = .ok (.ireturn, 1) := by decide +kernel
theorem d_G_total_10 : decode prog_1_method_15_code 10 = .ok (.aload_n 0, 1) := by decide +kernel
theorem d_G_total_11 : decode prog_1_method_15_code 11 = .ok (.getfield 37, 3) := by decide +kernel
theorem d_G_total_14 : decode prog_1_method_15_code 14 = .ok (.iload_n 1, 1) := by decide +kernel
theorem d_G_total_15 : decode prog_1_method_15_code 15 = .ok (.aaload, 1) := by decide +kernel
theorem d_G_total_16 : decode prog_1_method_15_code 16 = .ok (.astore_n 2, 1) := by decide +kernel
theorem d_G_total_17 : decode prog_1_method_15_code 17 = .ok (.aload_n 2, 1) := by decide +kernel
theorem d_G_total_18 : decode prog_1_method_15_code 18 = .ok (.getfield 55, 3) := by decide +kernel
theorem d_G_total_21 : decode prog_1_method_15_code 21 = .ok (.aload_n 2, 1) := by decide +kernel
theorem d_G_total_22 : decode prog_1_method_15_code 22 = .ok (.getfield 125, 3) := by decide +kernel
theorem d_G_total_25 : decode prog_1_method_15_code 25 = .ok (.invokevirtual 132, 3) := by decide +kernel
theorem d_G_total_28 : decode prog_1_method_15_code 28 = .ok (.getfield 145, 3) := by decide +kernel
theorem d_G_total_31 : decode prog_1_method_15_code 31 = .ok (.ireturn, 1) := by decide +kernel
theorem b_G_total_0 {l : Launch} {D : va_G} {cid : Nat → ClassId} {X : CT} {Post : PT} (hX : OK l D cid m_G_total X Post) : SS l D cid m_G_total X 0 [o_aload 0, o_iload 1, o_callV l D cid m_G_isReplica 3 1] (t_if (fun x => ¬ x = 0) (FR l D cid m_G_total X 10) (FR l D cid m_G_total X 8)) := by
  refine SS.cons (so_aload_n hX d_G_total_0 rfl) ?_
  refine SS.cons (so_iload_n hX d_G_total_1 rfl) ?_
  refine SS.cons (so_callV (M' := m_G_isReplica) (T := T_G) hX d_G_total_2 rfl k_191 k_188 k_190 k_0 k_45 pf_G_isReplica (by decide) (by decide +kernel) ⟨by decide, by decide⟩) ?_
  exact st_if_ne hX d_G_total_5 (by decide)
theorem b_G_total_8 {l : Launch} {D : va_G} {cid : Nat → ClassId} {X : CT} {Post : PT} (hX : OK l D cid m_G_total X Post) : SS l D cid m_G_total X 8 [o_push (.int 0)] (t_iret Post) := by
  refine SS.cons (so_iconst hX d_G_total_8 (by decide)) ?_
  exact st_iret hX d_G_total_9 rfl
theorem b_G_total_10 {l : Launch} {D : va_G} {cid : Nat → ClassId} {X : CT} {Post : PT} (hX : OK l D cid m_G_total X Post) : SS l D cid m_G_total X 10 [o_aload 0, o_getf 3 2, o_iload 1, o_aldq 3, o_astore 2, o_aload 2, o_getf 2 4, o_aload 2, o_getf 2 5, o_callV l D cid m_L_firstEntries 0 1, o_getf 0 5] (t_iret Post) := by
  refine SS.cons (so_aload_n hX d_G_total_10 rfl) ?_
  refine SS.cons (so_getf (C := R_G) (T := T_G) hX d_G_total_11 in_G rfl (by decide) k_161) ?_
  refine SS.cons (so_iload_n hX d_G_total_14 rfl) ?_
  refine SS.cons (so_aldq hX d_G_total_15 rfl) ?_
  refine SS.cons (so_astore_n hX d_G_total_16 rfl (by decide)) ?_
  refine SS.cons (so_aload_n hX d_G_total_17 rfl) ?_
  refine SS.cons (so_getf (C := R_P) (T := T_P) hX d_G_total_18 in_P rfl (by decide) k_113) ?_
  refine SS.cons (so_aload_n hX d_G_total_21 rfl) ?_
  refine SS.cons (so_getf (C := R_P) (T := T_P) hX d_G_total_22 in_P rfl (by decide) k_116) ?_
  refine SS.cons (so_callV (M' := m_L_firstEntries) (T := T_L) hX d_G_total_25 rfl k_340 k_337 k_338 k_339 k_47 pf_L_firstEntries (by decide) (by decide +kernel) ⟨by decide, by decide⟩) ?_
  refine SS.cons (so_getf (C := R_L) (T := T_L) hX d_G_total_28 in_L rfl (by decide) k_85) ?_
  exact st_iret hX d_G_total_31 rfl
abbrev m_G_vector : MT := (⟨"GroupLog", "vector", "(II)I"⟩, prog_1_method_16_code, 3, (some FieldType.int), { frames := 1, cells := 0, slots := 0, locals := 21 })
theorem pf_G_vector : plainFor m_G_vector.1 = true := by decide +kernel
theorem d_G_vector_0 : decode prog_1_method_16_code 0 = .ok (.aload_n 0, 1) := by decide +kernel
theorem d_G_vector_1 : decode prog_1_method_16_code 1 = .ok (.iload_n 1, 1) := by decide +kernel
theorem d_G_vector_2 : decode prog_1_method_16_code 2 = .ok (.invokevirtual 44, 3) := by decide +kernel
theorem d_G_vector_5 : decode prog_1_method_16_code 5 = .ok (.ifCond .eq 25, 3) := by decide +kernel
theorem d_G_vector_8 : decode prog_1_method_16_code 8 = .ok (.aload_n 0, 1) := by decide +kernel
theorem d_G_vector_9 : decode prog_1_method_16_code 9 = .ok (.iload_n 2, 1) := by decide +kernel
theorem d_G_vector_10 : decode prog_1_method_16_code 10 = .ok (.invokevirtual 44, 3) := by decide +kernel
theorem d_G_vector_13 : decode prog_1_method_16_code 13 = .ok (.ifCond .eq 17, 3) := by decide +kernel
theorem d_G_vector_16 : decode prog_1_method_16_code 16 = .ok (.aload_n 0, 1) := by decide +kernel
theorem d_G_vector_17 : decode prog_1_method_16_code 17 = .ok (.getfield 37, 3) := by decide +kernel
theorem d_G_vector_20 : decode prog_1_method_16_code 20 = .ok (.iload_n 1, 1) := by decide +kernel
theorem d_G_vector_21 : decode prog_1_method_16_code 21 = .ok (.aaload, 1) := by decide +kernel
theorem d_G_vector_22 : decode prog_1_method_16_code 22 = .ok (.getfield 119, 3) := by decide +kernel
theorem d_G_vector_25 : decode prog_1_method_16_code 25 = .ok (.iload_n 2, 1) := by decide +kernel
theorem d_G_vector_26 : decode prog_1_method_16_code 26 = .ok (.iaload, 1) := by decide +kernel
theorem d_G_vector_27 : decode prog_1_method_16_code 27 = .ok (.goto 4, 3) := by decide +kernel
theorem d_G_vector_30 : decode prog_1_method_16_code 30 = .ok (.iconst (-1), 1) := by decide +kernel
theorem d_G_vector_31 : decode prog_1_method_16_code 31 = .ok (.ireturn, 1) := by decide +kernel
theorem b_G_vector_0 {l : Launch} {D : va_G} {cid : Nat → ClassId} {X : CT} {Post : PT} (hX : OK l D cid m_G_vector X Post) : SS l D cid m_G_vector X 0 [o_aload 0, o_iload 1, o_callV l D cid m_G_isReplica 3 1] (t_if (fun x => x = 0) (FR l D cid m_G_vector X 30) (FR l D cid m_G_vector X 8)) := by
  refine SS.cons (so_aload_n hX d_G_vector_0 rfl) ?_
  refine SS.cons (so_iload_n hX d_G_vector_1 rfl) ?_
  refine SS.cons (so_callV (M' := m_G_isReplica) (T := T_G) hX d_G_vector_2 rfl k_191 k_188 k_190 k_0 k_45 pf_G_isReplica (by decide) (by decide +kernel) ⟨by decide, by decide⟩) ?_
  exact st_if_eq hX d_G_vector_5 (by decide)
theorem b_G_vector_8 {l : Launch} {D : va_G} {cid : Nat → ClassId} {X : CT} {Post : PT} (hX : OK l D cid m_G_vector X Post) : SS l D cid m_G_vector X 8 [o_aload 0, o_iload 2, o_callV l D cid m_G_isReplica 3 1] (t_if (fun x => x = 0) (FR l D cid m_G_vector X 30) (FR l D cid m_G_vector X 16)) := by
  refine SS.cons (so_aload_n hX d_G_vector_8 rfl) ?_
  refine SS.cons (so_iload_n hX d_G_vector_9 rfl) ?_
  refine SS.cons (so_callV (M' := m_G_isReplica) (T := T_G) hX d_G_vector_10 rfl k_191 k_188 k_190 k_0 k_45 pf_G_isReplica (by decide) (by decide +kernel) ⟨by decide, by decide⟩) ?_
  exact st_if_eq hX d_G_vector_13 (by decide)
theorem b_G_vector_16 {l : Launch} {D : va_G} {cid : Nat → ClassId} {X : CT} {Post : PT} (hX : OK l D cid m_G_vector X Post) : SS l D cid m_G_vector X 16 [o_aload 0, o_getf 3 2, o_iload 1, o_aldq 3, o_getf 2 6, o_iload 2, o_ald 0] (FR l D cid m_G_vector X 31) := by
  refine SS.cons (so_aload_n hX d_G_vector_16 rfl) ?_
  refine SS.cons (so_getf (C := R_G) (T := T_G) hX d_G_vector_17 in_G rfl (by decide) k_161) ?_
  refine SS.cons (so_iload_n hX d_G_vector_20 rfl) ?_
  refine SS.cons (so_aldq hX d_G_vector_21 rfl) ?_
  refine SS.cons (so_getf (C := R_P) (T := T_P) hX d_G_vector_22 in_P rfl (by decide) k_119) ?_
  refine SS.cons (so_iload_n hX d_G_vector_25 rfl) ?_
  refine SS.cons (so_iald hX d_G_vector_26) ?_
  exact so_goto hX d_G_vector_27 (by decide)
theorem b_G_vector_30 {l : Launch} {D : va_G} {cid : Nat → ClassId} {X : CT} {Post : PT} (hX : OK l D cid m_G_vector X Post) : SS l D cid m_G_vector X 30 [o_push (.int (-1))] (FR l D cid m_G_vector X 31) := by
  refine SS.cons (so_iconst hX d_G_vector_30 (by decide)) ?_
  exact SS.fall
theorem b_G_vector_31 {l : Launch} {D : va_G} {cid : Nat → ClassId} {X : CT} {Post : PT} (hX : OK l D cid m_G_vector X Post) : SS l D cid m_G_vector X 31 [] (t_iret Post) := by
  exact st_iret hX d_G_vector_31 rfl
abbrev m_G_sent : MT := (⟨"GroupLog", "sent", "()I"⟩, prog_1_method_17_code, 1, (some FieldType.int), { frames := 0, cells := 0, slots := 0, locals := 0 })
theorem pf_G_sent : plainFor m_G_sent.1 = true := by decide +kernel
theorem d_G_sent_0 : decode prog_1_method_17_code 0 = .ok (.aload_n 0, 1) := by decide +kernel
theorem d_G_sent_1 : decode prog_1_method_17_code 1 = .ok (.getfield 15, 3) := by decide +kernel
theorem d_G_sent_4 : decode prog_1_method_17_code 4 = .ok (.ireturn, 1) := by decide +kernel
theorem b_G_sent_0 {l : Launch} {D : va_G} {cid : Nat → ClassId} {X : CT} {Post : PT} (hX : OK l D cid m_G_sent X Post) : SS l D cid m_G_sent X 0 [o_aload 0, o_getf 3 4] (t_iret Post) := by
  refine SS.cons (so_aload_n hX d_G_sent_0 rfl) ?_
  refine SS.cons (so_getf (C := R_G) (T := T_G) hX d_G_sent_1 in_G rfl (by decide) k_163) ?_
  exact st_iret hX d_G_sent_4 rfl
abbrev m_G_message : MT := (⟨"GroupLog", "message", "(I)I"⟩, prog_1_method_18_code, 3, (some FieldType.int), { frames := 1, cells := 0, slots := 0, locals := 22 })
theorem pf_G_message : plainFor m_G_message.1 = true := by decide +kernel
theorem d_G_message_0 : decode prog_1_method_18_code 0 = .ok (.aload_n 0, 1) := by decide +kernel
theorem d_G_message_1 : decode prog_1_method_18_code 1 = .ok (.iload_n 1, 1) := by decide +kernel
theorem d_G_message_2 : decode prog_1_method_18_code 2 = .ok (.invokevirtual 83, 3) := by decide +kernel
theorem d_G_message_5 : decode prog_1_method_18_code 5 = .ok (.astore_n 2, 1) := by decide +kernel
theorem d_G_message_6 : decode prog_1_method_18_code 6 = .ok (.aload_n 2, 1) := by decide +kernel
theorem d_G_message_7 : decode prog_1_method_18_code 7 = .ok (.ifnonnull 7, 3) := by decide +kernel
theorem d_G_message_10 : decode prog_1_method_18_code 10 = .ok (.iconst (-1), 1) := by decide +kernel
theorem d_G_message_11 : decode prog_1_method_18_code 11 = .ok (.goto 33, 3) := by decide +kernel
theorem d_G_message_14 : decode prog_1_method_18_code 14 = .ok (.aload_n 2, 1) := by decide +kernel
theorem d_G_message_15 : decode prog_1_method_18_code 15 = .ok (.getfield 148, 3) := by decide +kernel
theorem d_G_message_18 : decode prog_1_method_18_code 18 = .ok (.bipush 16, 2) := by decide +kernel
theorem d_G_message_20 : decode prog_1_method_18_code 20 = .ok (.aload_n 2, 1) := by decide +kernel
theorem d_G_message_21 : decode prog_1_method_18_code 21 = .ok (.getfield 151, 3) := by decide +kernel
theorem d_G_message_24 : decode prog_1_method_18_code 24 = .ok (.imul, 1) := by decide +kernel
theorem d_G_message_25 : decode prog_1_method_18_code 25 = .ok (.iadd, 1) := by decide +kernel
theorem d_G_message_26 : decode prog_1_method_18_code 26 = .ok (.sipush 128, 3) := by decide +kernel
theorem d_G_message_29 : decode prog_1_method_18_code 29 = .ok (.aload_n 2, 1) := by decide +kernel
theorem d_G_message_30 : decode prog_1_method_18_code 30 = .ok (.getfield 154, 3) := by decide +kernel
theorem d_G_message_33 : decode prog_1_method_18_code 33 = .ok (.imul, 1) := by decide +kernel
theorem d_G_message_34 : decode prog_1_method_18_code 34 = .ok (.iadd, 1) := by decide +kernel
theorem d_G_message_35 : decode prog_1_method_18_code 35 = .ok (.sipush 1024, 3) := by decide +kernel
theorem d_G_message_38 : decode prog_1_method_18_code 38 = .ok (.aload_n 2, 1) := by decide +kernel
theorem d_G_message_39 : decode prog_1_method_18_code 39 = .ok (.getfield 157, 3) := by decide +kernel
theorem d_G_message_42 : decode prog_1_method_18_code 42 = .ok (.imul, 1) := by decide +kernel
theorem d_G_message_43 : decode prog_1_method_18_code 43 = .ok (.iadd, 1) := by decide +kernel
theorem d_G_message_44 : decode prog_1_method_18_code 44 = .ok (.ireturn, 1) := by decide +kernel
theorem b_G_message_0 {l : Launch} {D : va_G} {cid : Nat → ClassId} {X : CT} {Post : PT} (hX : OK l D cid m_G_message X Post) : SS l D cid m_G_message X 0 [o_aload 0, o_iload 1, o_callV l D cid m_G_findMessage 3 1, o_astore 2, o_aload 2] (t_null (FR l D cid m_G_message X 10) (FR l D cid m_G_message X 14)) := by
  refine SS.cons (so_aload_n hX d_G_message_0 rfl) ?_
  refine SS.cons (so_iload_n hX d_G_message_1 rfl) ?_
  refine SS.cons (so_callV (M' := m_G_findMessage) (T := T_G) hX d_G_message_2 rfl k_286 k_283 k_285 k_7 k_45 pf_G_findMessage (by decide) (by decide +kernel) ⟨by decide, by decide⟩) ?_
  refine SS.cons (so_astore_n hX d_G_message_5 rfl (by decide)) ?_
  refine SS.cons (so_aload_n hX d_G_message_6 rfl) ?_
  exact st_ifnonnull hX d_G_message_7 (by decide)
theorem b_G_message_10 {l : Launch} {D : va_G} {cid : Nat → ClassId} {X : CT} {Post : PT} (hX : OK l D cid m_G_message X Post) : SS l D cid m_G_message X 10 [o_push (.int (-1))] (FR l D cid m_G_message X 44) := by
  refine SS.cons (so_iconst hX d_G_message_10 (by decide)) ?_
  exact so_goto hX d_G_message_11 (by decide)
theorem b_G_message_14 {l : Launch} {D : va_G} {cid : Nat → ClassId} {X : CT} {Post : PT} (hX : OK l D cid m_G_message X Post) : SS l D cid m_G_message X 14 [o_aload 2, o_getf 1 0, o_push (.int 16), o_aload 2, o_getf 1 1, o_bin (fun x y => x * y), o_bin (fun x y => x + y), o_push (.int 128), o_aload 2, o_getf 1 2, o_bin (fun x y => x * y), o_bin (fun x y => x + y), o_push (.int 1024), o_aload 2, o_getf 1 3, o_bin (fun x y => x * y), o_bin (fun x y => x + y)] (FR l D cid m_G_message X 44) := by
  refine SS.cons (so_aload_n hX d_G_message_14 rfl) ?_
  refine SS.cons (so_getf (C := R_E) (T := T_E) hX d_G_message_15 in_E rfl (by decide) k_243) ?_
  refine SS.cons (so_bipush hX d_G_message_18 (by decide)) ?_
  refine SS.cons (so_aload_n hX d_G_message_20 rfl) ?_
  refine SS.cons (so_getf (C := R_E) (T := T_E) hX d_G_message_21 in_E rfl (by decide) k_245) ?_
  refine SS.cons (so_imul hX d_G_message_24) ?_
  refine SS.cons (so_iadd hX d_G_message_25) ?_
  refine SS.cons (so_sipush hX d_G_message_26 (by decide)) ?_
  refine SS.cons (so_aload_n hX d_G_message_29 rfl) ?_
  refine SS.cons (so_getf (C := R_E) (T := T_E) hX d_G_message_30 in_E rfl (by decide) k_247) ?_
  refine SS.cons (so_imul hX d_G_message_33) ?_
  refine SS.cons (so_iadd hX d_G_message_34) ?_
  refine SS.cons (so_sipush hX d_G_message_35 (by decide)) ?_
  refine SS.cons (so_aload_n hX d_G_message_38 rfl) ?_
  refine SS.cons (so_getf (C := R_E) (T := T_E) hX d_G_message_39 in_E rfl (by decide) k_250) ?_
  refine SS.cons (so_imul hX d_G_message_42) ?_
  refine SS.cons (so_iadd hX d_G_message_43) ?_
  exact SS.fall
theorem b_G_message_44 {l : Launch} {D : va_G} {cid : Nat → ClassId} {X : CT} {Post : PT} (hX : OK l D cid m_G_message X Post) : SS l D cid m_G_message X 44 [] (t_iret Post) := by
  exact st_iret hX d_G_message_44 rfl
abbrev m_G_answered : MT := (⟨"GroupLog", "answered", "(I)I"⟩, prog_1_method_19_code, 2, (some FieldType.int), { frames := 1, cells := 0, slots := 0, locals := 20 })
theorem pf_G_answered : plainFor m_G_answered.1 = true := by decide +kernel
theorem d_G_answered_0 : decode prog_1_method_19_code 0 = .ok (.iload_n 1, 1) := by decide +kernel
theorem d_G_answered_1 : decode prog_1_method_19_code 1 = .ok (.invokestatic 48, 3) := by decide +kernel
theorem d_G_answered_4 : decode prog_1_method_19_code 4 = .ok (.ifCond .eq 12, 3) := by decide +kernel
theorem d_G_answered_7 : decode prog_1_method_19_code 7 = .ok (.aload_n 0, 1) := by decide +kernel
theorem d_G_answered_8 : decode prog_1_method_19_code 8 = .ok (.getfield 22, 3) := by decide +kernel
theorem d_G_answered_11 : decode prog_1_method_19_code 11 = .ok (.iload_n 1, 1) := by decide +kernel
theorem d_G_answered_12 : decode prog_1_method_19_code 12 = .ok (.iaload, 1) := by decide +kernel
theorem d_G_answered_13 : decode prog_1_method_19_code 13 = .ok (.goto 4, 3) := by decide +kernel
theorem d_G_answered_16 : decode prog_1_method_19_code 16 = .ok (.iconst (-1), 1) := by decide +kernel
theorem d_G_answered_17 : decode prog_1_method_19_code 17 = .ok (.ireturn, 1) := by decide +kernel
theorem b_G_answered_0 {l : Launch} {D : va_G} {cid : Nat → ClassId} {X : CT} {Post : PT} (hX : OK l D cid m_G_answered X Post) : SS l D cid m_G_answered X 0 [o_iload 1, o_callS l D cid m_G_isClient 1] (t_if (fun x => x = 0) (FR l D cid m_G_answered X 16) (FR l D cid m_G_answered X 7)) := by
  refine SS.cons (so_iload_n hX d_G_answered_0 rfl) ?_
  refine SS.cons (so_callS (M' := m_G_isClient) hX d_G_answered_1 k_194 k_192 k_193 k_45 pf_G_isClient (by decide) (by decide +kernel) ⟨by decide, by decide⟩) ?_
  exact st_if_eq hX d_G_answered_4 (by decide)
theorem b_G_answered_7 {l : Launch} {D : va_G} {cid : Nat → ClassId} {X : CT} {Post : PT} (hX : OK l D cid m_G_answered X Post) : SS l D cid m_G_answered X 7 [o_aload 0, o_getf 3 6, o_iload 1, o_ald 0] (FR l D cid m_G_answered X 17) := by
  refine SS.cons (so_aload_n hX d_G_answered_7 rfl) ?_
  refine SS.cons (so_getf (C := R_G) (T := T_G) hX d_G_answered_8 in_G rfl (by decide) k_165) ?_
  refine SS.cons (so_iload_n hX d_G_answered_11 rfl) ?_
  refine SS.cons (so_iald hX d_G_answered_12) ?_
  exact so_goto hX d_G_answered_13 (by decide)
theorem b_G_answered_16 {l : Launch} {D : va_G} {cid : Nat → ClassId} {X : CT} {Post : PT} (hX : OK l D cid m_G_answered X Post) : SS l D cid m_G_answered X 16 [o_push (.int (-1))] (FR l D cid m_G_answered X 17) := by
  refine SS.cons (so_iconst hX d_G_answered_16 (by decide)) ?_
  exact SS.fall
theorem b_G_answered_17 {l : Launch} {D : va_G} {cid : Nat → ClassId} {X : CT} {Post : PT} (hX : OK l D cid m_G_answered X Post) : SS l D cid m_G_answered X 17 [] (t_iret Post) := by
  exact st_iret hX d_G_answered_17 rfl
abbrev m_G_answer : MT := (⟨"GroupLog", "answer", "(I)I"⟩, prog_1_method_20_code, 2, (some FieldType.int), { frames := 1, cells := 0, slots := 0, locals := 20 })
theorem pf_G_answer : plainFor m_G_answer.1 = true := by decide +kernel
theorem d_G_answer_0 : decode prog_1_method_20_code 0 = .ok (.iload_n 1, 1) := by decide +kernel
theorem d_G_answer_1 : decode prog_1_method_20_code 1 = .ok (.invokestatic 48, 3) := by decide +kernel
theorem d_G_answer_4 : decode prog_1_method_20_code 4 = .ok (.ifCond .eq 12, 3) := by decide +kernel
theorem d_G_answer_7 : decode prog_1_method_20_code 7 = .ok (.aload_n 0, 1) := by decide +kernel
theorem d_G_answer_8 : decode prog_1_method_20_code 8 = .ok (.getfield 26, 3) := by decide +kernel
theorem d_G_answer_11 : decode prog_1_method_20_code 11 = .ok (.iload_n 1, 1) := by decide +kernel
theorem d_G_answer_12 : decode prog_1_method_20_code 12 = .ok (.iaload, 1) := by decide +kernel
theorem d_G_answer_13 : decode prog_1_method_20_code 13 = .ok (.goto 4, 3) := by decide +kernel
theorem d_G_answer_16 : decode prog_1_method_20_code 16 = .ok (.iconst 0, 1) := by decide +kernel
theorem d_G_answer_17 : decode prog_1_method_20_code 17 = .ok (.ireturn, 1) := by decide +kernel
theorem b_G_answer_0 {l : Launch} {D : va_G} {cid : Nat → ClassId} {X : CT} {Post : PT} (hX : OK l D cid m_G_answer X Post) : SS l D cid m_G_answer X 0 [o_iload 1, o_callS l D cid m_G_isClient 1] (t_if (fun x => x = 0) (FR l D cid m_G_answer X 16) (FR l D cid m_G_answer X 7)) := by
  refine SS.cons (so_iload_n hX d_G_answer_0 rfl) ?_
  refine SS.cons (so_callS (M' := m_G_isClient) hX d_G_answer_1 k_194 k_192 k_193 k_45 pf_G_isClient (by decide) (by decide +kernel) ⟨by decide, by decide⟩) ?_
  exact st_if_eq hX d_G_answer_4 (by decide)
theorem b_G_answer_7 {l : Launch} {D : va_G} {cid : Nat → ClassId} {X : CT} {Post : PT} (hX : OK l D cid m_G_answer X Post) : SS l D cid m_G_answer X 7 [o_aload 0, o_getf 3 7, o_iload 1, o_ald 0] (FR l D cid m_G_answer X 17) := by
  refine SS.cons (so_aload_n hX d_G_answer_7 rfl) ?_
  refine SS.cons (so_getf (C := R_G) (T := T_G) hX d_G_answer_8 in_G rfl (by decide) k_166) ?_
  refine SS.cons (so_iload_n hX d_G_answer_11 rfl) ?_
  refine SS.cons (so_iald hX d_G_answer_12) ?_
  exact so_goto hX d_G_answer_13 (by decide)
theorem b_G_answer_16 {l : Launch} {D : va_G} {cid : Nat → ClassId} {X : CT} {Post : PT} (hX : OK l D cid m_G_answer X Post) : SS l D cid m_G_answer X 16 [o_push (.int 0)] (FR l D cid m_G_answer X 17) := by
  refine SS.cons (so_iconst hX d_G_answer_16 (by decide)) ?_
  exact SS.fall
theorem b_G_answer_17 {l : Launch} {D : va_G} {cid : Nat → ClassId} {X : CT} {Post : PT} (hX : OK l D cid m_G_answer X Post) : SS l D cid m_G_answer X 17 [] (t_iret Post) := by
  exact st_iret hX d_G_answer_17 rfl
