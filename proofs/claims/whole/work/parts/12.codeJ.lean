abbrev m_J_floorMod : MT := (⟨"java/lang/Math", "floorMod", "(II)I"⟩, prog_8_method_50_code, 3, (some FieldType.int), { frames := 0, cells := 0, slots := 0, locals := 0 })
theorem pf_J_floorMod : plainFor m_J_floorMod.1 = true := by decide +kernel
theorem d_J_floorMod_0 : decode prog_8_method_50_code 0 = .ok (.iload_n 0, 1) := by decide +kernel
theorem d_J_floorMod_1 : decode prog_8_method_50_code 1 = .ok (.iload_n 1, 1) := by decide +kernel
theorem d_J_floorMod_2 : decode prog_8_method_50_code 2 = .ok (.irem, 1) := by decide +kernel
theorem d_J_floorMod_3 : decode prog_8_method_50_code 3 = .ok (.istore_n 2, 1) := by decide +kernel
theorem d_J_floorMod_4 : decode prog_8_method_50_code 4 = .ok (.iload_n 0, 1) := by decide +kernel
theorem d_J_floorMod_5 : decode prog_8_method_50_code 5 = .ok (.iload_n 1, 1) := by decide +kernel
theorem d_J_floorMod_6 : decode prog_8_method_50_code 6 = .ok (.ixor, 1) := by decide +kernel
theorem d_J_floorMod_7 : decode prog_8_method_50_code 7 = .ok (.ifCond .ge 11, 3) := by decide +kernel
theorem d_J_floorMod_10 : decode prog_8_method_50_code 10 = .ok (.iload_n 2, 1) := by decide +kernel
theorem d_J_floorMod_11 : decode prog_8_method_50_code 11 = .ok (.ifCond .eq 7, 3) := by decide +kernel
theorem d_J_floorMod_14 : decode prog_8_method_50_code 14 = .ok (.iload_n 2, 1) := by decide +kernel
theorem d_J_floorMod_15 : decode prog_8_method_50_code 15 = .ok (.iload_n 1, 1) := by decide +kernel
theorem d_J_floorMod_16 : decode prog_8_method_50_code 16 = .ok (.iadd, 1) := by decide +kernel
theorem d_J_floorMod_17 : decode prog_8_method_50_code 17 = .ok (.ireturn, 1) := by decide +kernel
theorem d_J_floorMod_18 : decode prog_8_method_50_code 18 = .ok (.iload_n 2, 1) := by decide +kernel
theorem d_J_floorMod_19 : decode prog_8_method_50_code 19 = .ok (.ireturn, 1) := by decide +kernel
theorem b_J_floorMod_0 {l : Launch} {D : va_G} {cid : Nat → ClassId} {X : CT} {Post : PT} (hX : OK l D cid m_J_floorMod X Post) : SS l D cid m_J_floorMod X 0 [o_iload 0, o_iload 1, o_binz (fun x y => x - x / y * y), o_istore 2, o_iload 0, o_iload 1, o_bin (fun x y => x ^^^ y)] (t_if (fun x => 0 ≤ x) (FR l D cid m_J_floorMod X 18) (FR l D cid m_J_floorMod X 10)) := by
  refine SS.cons (so_iload_n hX d_J_floorMod_0 rfl) ?_
  refine SS.cons (so_iload_n hX d_J_floorMod_1 rfl) ?_
  refine SS.cons (so_irem hX d_J_floorMod_2) ?_
  refine SS.cons (so_istore_n hX d_J_floorMod_3 rfl (by decide)) ?_
  refine SS.cons (so_iload_n hX d_J_floorMod_4 rfl) ?_
  refine SS.cons (so_iload_n hX d_J_floorMod_5 rfl) ?_
  refine SS.cons (so_ixor hX d_J_floorMod_6) ?_
  exact st_if_ge hX d_J_floorMod_7 (by decide)
theorem b_J_floorMod_10 {l : Launch} {D : va_G} {cid : Nat → ClassId} {X : CT} {Post : PT} (hX : OK l D cid m_J_floorMod X Post) : SS l D cid m_J_floorMod X 10 [o_iload 2] (t_if (fun x => x = 0) (FR l D cid m_J_floorMod X 18) (FR l D cid m_J_floorMod X 14)) := by
  refine SS.cons (so_iload_n hX d_J_floorMod_10 rfl) ?_
  exact st_if_eq hX d_J_floorMod_11 (by decide)
theorem b_J_floorMod_14 {l : Launch} {D : va_G} {cid : Nat → ClassId} {X : CT} {Post : PT} (hX : OK l D cid m_J_floorMod X Post) : SS l D cid m_J_floorMod X 14 [o_iload 2, o_iload 1, o_bin (fun x y => x + y)] (t_iret Post) := by
  refine SS.cons (so_iload_n hX d_J_floorMod_14 rfl) ?_
  refine SS.cons (so_iload_n hX d_J_floorMod_15 rfl) ?_
  refine SS.cons (so_iadd hX d_J_floorMod_16) ?_
  exact st_iret hX d_J_floorMod_17 rfl
theorem b_J_floorMod_18 {l : Launch} {D : va_G} {cid : Nat → ClassId} {X : CT} {Post : PT} (hX : OK l D cid m_J_floorMod X Post) : SS l D cid m_J_floorMod X 18 [o_iload 2] (t_iret Post) := by
  refine SS.cons (so_iload_n hX d_J_floorMod_18 rfl) ?_
  exact st_iret hX d_J_floorMod_19 rfl
abbrev m_J_max : MT := (⟨"java/lang/Math", "max", "(II)I"⟩, prog_8_method_65_code, 2, (some FieldType.int), { frames := 0, cells := 0, slots := 0, locals := 0 })
theorem pf_J_max : plainFor m_J_max.1 = true := by decide +kernel
theorem d_J_max_0 : decode prog_8_method_65_code 0 = .ok (.iload_n 0, 1) := by decide +kernel
theorem d_J_max_1 : decode prog_8_method_65_code 1 = .ok (.iload_n 1, 1) := by decide +kernel
theorem d_J_max_2 : decode prog_8_method_65_code 2 = .ok (.if_icmp .lt 7, 3) := by decide +kernel
theorem d_J_max_5 : decode prog_8_method_65_code 5 = .ok (.iload_n 0, 1) := by decide +kernel
theorem d_J_max_6 : decode prog_8_method_65_code 6 = .ok (.goto 4, 3) := by decide +kernel
theorem d_J_max_9 : decode prog_8_method_65_code 9 = .ok (.iload_n 1, 1) := by decide +kernel
theorem d_J_max_10 : decode prog_8_method_65_code 10 = .ok (.ireturn, 1) := by decide +kernel
theorem b_J_max_0 {l : Launch} {D : va_G} {cid : Nat → ClassId} {X : CT} {Post : PT} (hX : OK l D cid m_J_max X Post) : SS l D cid m_J_max X 0 [o_iload 0, o_iload 1] (t_cmp (fun x y => x < y) (FR l D cid m_J_max X 9) (FR l D cid m_J_max X 5)) := by
  refine SS.cons (so_iload_n hX d_J_max_0 rfl) ?_
  refine SS.cons (so_iload_n hX d_J_max_1 rfl) ?_
  exact st_icmp_lt hX d_J_max_2 (by decide)
theorem b_J_max_5 {l : Launch} {D : va_G} {cid : Nat → ClassId} {X : CT} {Post : PT} (hX : OK l D cid m_J_max X Post) : SS l D cid m_J_max X 5 [o_iload 0] (FR l D cid m_J_max X 10) := by
  refine SS.cons (so_iload_n hX d_J_max_5 rfl) ?_
  exact so_goto hX d_J_max_6 (by decide)
theorem b_J_max_9 {l : Launch} {D : va_G} {cid : Nat → ClassId} {X : CT} {Post : PT} (hX : OK l D cid m_J_max X Post) : SS l D cid m_J_max X 9 [o_iload 1] (FR l D cid m_J_max X 10) := by
  refine SS.cons (so_iload_n hX d_J_max_9 rfl) ?_
  exact SS.fall
theorem b_J_max_10 {l : Launch} {D : va_G} {cid : Nat → ClassId} {X : CT} {Post : PT} (hX : OK l D cid m_J_max X Post) : SS l D cid m_J_max X 10 [] (t_iret Post) := by
  exact st_iret hX d_J_max_10 rfl
abbrev m_J_min : MT := (⟨"java/lang/Math", "min", "(II)I"⟩, prog_8_method_69_code, 2, (some FieldType.int), { frames := 0, cells := 0, slots := 0, locals := 0 })
theorem pf_J_min : plainFor m_J_min.1 = true := by decide +kernel
theorem d_J_min_0 : decode prog_8_method_69_code 0 = .ok (.iload_n 0, 1) := by decide +kernel
theorem d_J_min_1 : decode prog_8_method_69_code 1 = .ok (.iload_n 1, 1) := by decide +kernel
theorem d_J_min_2 : decode prog_8_method_69_code 2 = .ok (.if_icmp .gt 7, 3) := by decide +kernel
theorem d_J_min_5 : decode prog_8_method_69_code 5 = .ok (.iload_n 0, 1) := by decide +kernel
theorem d_J_min_6 : decode prog_8_method_69_code 6 = .ok (.goto 4, 3) := by decide +kernel
theorem d_J_min_9 : decode prog_8_method_69_code 9 = .ok (.iload_n 1, 1) := by decide +kernel
theorem d_J_min_10 : decode prog_8_method_69_code 10 = .ok (.ireturn, 1) := by decide +kernel
theorem b_J_min_0 {l : Launch} {D : va_G} {cid : Nat → ClassId} {X : CT} {Post : PT} (hX : OK l D cid m_J_min X Post) : SS l D cid m_J_min X 0 [o_iload 0, o_iload 1] (t_cmp (fun x y => y < x) (FR l D cid m_J_min X 9) (FR l D cid m_J_min X 5)) := by
  refine SS.cons (so_iload_n hX d_J_min_0 rfl) ?_
  refine SS.cons (so_iload_n hX d_J_min_1 rfl) ?_
  exact st_icmp_gt hX d_J_min_2 (by decide)
theorem b_J_min_5 {l : Launch} {D : va_G} {cid : Nat → ClassId} {X : CT} {Post : PT} (hX : OK l D cid m_J_min X Post) : SS l D cid m_J_min X 5 [o_iload 0] (FR l D cid m_J_min X 10) := by
  refine SS.cons (so_iload_n hX d_J_min_5 rfl) ?_
  exact so_goto hX d_J_min_6 (by decide)
theorem b_J_min_9 {l : Launch} {D : va_G} {cid : Nat → ClassId} {X : CT} {Post : PT} (hX : OK l D cid m_J_min X Post) : SS l D cid m_J_min X 9 [o_iload 1] (FR l D cid m_J_min X 10) := by
  refine SS.cons (so_iload_n hX d_J_min_9 rfl) ?_
  exact SS.fall
theorem b_J_min_10 {l : Launch} {D : va_G} {cid : Nat → ClassId} {X : CT} {Post : PT} (hX : OK l D cid m_J_min X Post) : SS l D cid m_J_min X 10 [] (t_iret Post) := by
  exact st_iret hX d_J_min_10 rfl
