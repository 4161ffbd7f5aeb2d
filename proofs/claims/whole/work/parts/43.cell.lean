abbrev m_W_cell : MT := (⟨"GroupLogLaw", "cell", "([II)I"⟩, method_2_code, 2, (some FieldType.int), { frames := 0, cells := 0, slots := 0, locals := 0 })
theorem pf_W_cell : plainFor m_W_cell.1 = true := by decide +kernel
theorem d_W_cell_0 : decode method_2_code 0 = .ok (.iload_n 1, 1) := by decide +kernel
theorem d_W_cell_1 : decode method_2_code 1 = .ok (.aload_n 0, 1) := by decide +kernel
theorem d_W_cell_2 : decode method_2_code 2 = .ok (.arraylength, 1) := by decide +kernel
theorem d_W_cell_3 : decode method_2_code 3 = .ok (.if_icmp .ge 9, 3) := by decide +kernel
theorem d_W_cell_6 : decode method_2_code 6 = .ok (.aload_n 0, 1) := by decide +kernel
theorem d_W_cell_7 : decode method_2_code 7 = .ok (.iload_n 1, 1) := by decide +kernel
theorem d_W_cell_8 : decode method_2_code 8 = .ok (.iaload, 1) := by decide +kernel
theorem d_W_cell_9 : decode method_2_code 9 = .ok (.goto 4, 3) := by decide +kernel
theorem d_W_cell_12 : decode method_2_code 12 = .ok (.iconst 0, 1) := by decide +kernel
theorem d_W_cell_13 : decode method_2_code 13 = .ok (.ireturn, 1) := by decide +kernel
theorem b_W_cell_0 {l : Launch} {D : va_G} {cid : Nat → ClassId} {X : CT} {Post : PT} {b L : Nat} {xs : Nat → Int32} (hX : OK l D cid m_W_cell X Post) (hsc : Scr X b L xs) : SS l D cid m_W_cell X 0 [o_iload 1, o_aload 0, o_slen b L] (t_cmp (fun x y => y ≤ x) (FR l D cid m_W_cell X 12) (FR l D cid m_W_cell X 6)) := by
  refine SS.cons (so_iload_n hX d_W_cell_0 rfl) ?_
  refine SS.cons (so_aload_n hX d_W_cell_1 rfl) ?_
  refine SS.cons (so_slen hX d_W_cell_2 hsc) ?_
  exact st_icmp_ge hX d_W_cell_3 (by decide)
theorem b_W_cell_6 {l : Launch} {D : va_G} {cid : Nat → ClassId} {X : CT} {Post : PT} {b L : Nat} {xs : Nat → Int32} (hX : OK l D cid m_W_cell X Post) (hsc : Scr X b L xs) : SS l D cid m_W_cell X 6 [o_aload 0, o_iload 1, o_sld b L xs] (FR l D cid m_W_cell X 13) := by
  refine SS.cons (so_aload_n hX d_W_cell_6 rfl) ?_
  refine SS.cons (so_iload_n hX d_W_cell_7 rfl) ?_
  refine SS.cons (so_sld hX d_W_cell_8 hsc) ?_
  exact so_goto hX d_W_cell_9 (by decide)
theorem b_W_cell_12 {l : Launch} {D : va_G} {cid : Nat → ClassId} {X : CT} {Post : PT} {b L : Nat} {xs : Nat → Int32} (hX : OK l D cid m_W_cell X Post) (hsc : Scr X b L xs) : SS l D cid m_W_cell X 12 [o_push (.int 0)] (FR l D cid m_W_cell X 13) := by
  refine SS.cons (so_iconst hX d_W_cell_12 (by decide)) ?_
  exact SS.fall
theorem b_W_cell_13 {l : Launch} {D : va_G} {cid : Nat → ClassId} {X : CT} {Post : PT} {b L : Nat} {xs : Nat → Int32} (hX : OK l D cid m_W_cell X Post) (hsc : Scr X b L xs) : SS l D cid m_W_cell X 13 [] (t_iret Post) := by
  exact st_iret hX d_W_cell_13 rfl
