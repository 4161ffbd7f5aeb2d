section SOUND
variable {l : Launch} {D : va_G} {cid : Nat → ClassId} {M : MT} {X : CT} {Post : PT} {pc : Nat}
theorem so_iconst {n : Int} {v : Int32} (hX : OK l D cid M X Post) (d : decode M.2.1 pc = .ok (.iconst n, 1)) (hv : Int32.ofInt n = v) : SO l D cid M X pc (o_push (.int v)) (pc + 1) := by
  intro lv st f bc bs k h hk H locs cells slots ls hl hw hS hc hs
  exact lv_iconst hX.1 hX.2.1 d hv (hk _ _ _ _ _ h H locs cells slots ls hl hw hS hc hs)
theorem so_bipush {n : Int} {v : Int32} (hX : OK l D cid M X Post) (d : decode M.2.1 pc = .ok (.bipush n, 2)) (hv : (Int8.ofInt n).toInt32 = v) : SO l D cid M X pc (o_push (.int v)) (pc + 2) := by
  intro lv st f bc bs k h hk H locs cells slots ls hl hw hS hc hs
  exact lv_bipush hX.1 hX.2.1 d hv (hk _ _ _ _ _ h H locs cells slots ls hl hw hS hc hs)
theorem so_sipush {n : Int} {v : Int32} (hX : OK l D cid M X Post) (d : decode M.2.1 pc = .ok (.sipush n, 3)) (hv : (Int16.ofInt n).toInt32 = v) : SO l D cid M X pc (o_push (.int v)) (pc + 3) := by
  intro lv st f bc bs k h hk H locs cells slots ls hl hw hS hc hs
  exact lv_sipush hX.1 hX.2.1 d hv (hk _ _ _ _ _ h H locs cells slots ls hl hw hS hc hs)
theorem so_null (hX : OK l D cid M X Post) (d : decode M.2.1 pc = .ok (.aconst_null, 1)) : SO l D cid M X pc (o_push .null) (pc + 1) := by
  intro lv st f bc bs k h hk H locs cells slots ls hl hw hS hc hs
  exact lv_null hX.1 hX.2.1 d (hk _ _ _ _ _ h H locs cells slots ls hl hw hS hc hs)
theorem so_iload_n {j : Fin 4} {i : Nat} (hX : OK l D cid M X Post) (d : decode M.2.1 pc = .ok (.iload_n j, 1)) (hi : (j : Nat) = i) : SO l D cid M X pc (o_iload i) (pc + 1) := by
  intro lv st f bc bs k h hk H locs cells slots ls hl hw hS hc hs
  obtain ⟨x, hx, h⟩ := h
  exact lv_iload_n hX.1 hX.2.1 d hi (hl.at hx) (hk _ _ _ _ _ h H locs cells slots ls hl hw hS hc hs)
theorem so_iload {i : Nat} (hX : OK l D cid M X Post) (d : decode M.2.1 pc = .ok (.iload i, 2)) : SO l D cid M X pc (o_iload i) (pc + 2) := by
  intro lv st f bc bs k h hk H locs cells slots ls hl hw hS hc hs
  obtain ⟨x, hx, h⟩ := h
  exact lv_iload hX.1 hX.2.1 d (hl.at hx) (hk _ _ _ _ _ h H locs cells slots ls hl hw hS hc hs)
theorem so_aload_n {j : Fin 4} {i : Nat} (hX : OK l D cid M X Post) (d : decode M.2.1 pc = .ok (.aload_n j, 1)) (hi : (j : Nat) = i) : SO l D cid M X pc (o_aload i) (pc + 1) := by
  intro lv st f bc bs k h hk H locs cells slots ls hl hw hS hc hs
  obtain ⟨r, hx, h⟩ := h
  cases r with
  | none => exact lv_aload_nN hX.1 hX.2.1 d hi (hl.at hx) (hk _ _ _ _ _ h H locs cells slots ls hl hw hS hc hs)
  | some a => exact lv_aload_n hX.1 hX.2.1 d hi (hl.at hx) (hk _ _ _ _ _ h H locs cells slots ls hl hw hS hc hs)
theorem so_aload {i : Nat} (hX : OK l D cid M X Post) (d : decode M.2.1 pc = .ok (.aload i, 2)) : SO l D cid M X pc (o_aload i) (pc + 2) := by
  intro lv st f bc bs k h hk H locs cells slots ls hl hw hS hc hs
  obtain ⟨r, hx, h⟩ := h
  cases r with
  | none => exact lv_aloadN hX.1 hX.2.1 d (hl.at hx) (hk _ _ _ _ _ h H locs cells slots ls hl hw hS hc hs)
  | some a => exact lv_aload hX.1 hX.2.1 d (hl.at hx) (hk _ _ _ _ _ h H locs cells slots ls hl hw hS hc hs)
theorem so_istore_n {j : Fin 4} {i : Nat} (hX : OK l D cid M X Post) (d : decode M.2.1 pc = .ok (.istore_n j, 1)) (hi : (j : Nat) = i) (hn : i < M.2.2.1) : SO l D cid M X pc (o_istore i) (pc + 1) := by
  intro lv st f bc bs k h hk H locs cells slots ls hl hw hS hc hs
  obtain ⟨x, r, rfl, h⟩ := h
  obtain ⟨l0, h1, h2⟩ := hl
  exact lv_istore_n hX.1 hX.2.1 d hi h1 hn rfl (fun ls' h' => hk _ _ _ _ _ h H locs cells slots ls' (lvr_set h2 rfl h') hw hS hc hs)
theorem so_istore {i : Nat} (hX : OK l D cid M X Post) (d : decode M.2.1 pc = .ok (.istore i, 2)) (hn : i < M.2.2.1) : SO l D cid M X pc (o_istore i) (pc + 2) := by
  intro lv st f bc bs k h hk H locs cells slots ls hl hw hS hc hs
  obtain ⟨x, r, rfl, h⟩ := h
  obtain ⟨l0, h1, h2⟩ := hl
  exact lv_istore hX.1 hX.2.1 d h1 hn rfl (fun ls' h' => hk _ _ _ _ _ h H locs cells slots ls' (lvr_set h2 rfl h') hw hS hc hs)
theorem so_astore_n {j : Fin 4} {i : Nat} (hX : OK l D cid M X Post) (d : decode M.2.1 pc = .ok (.astore_n j, 1)) (hi : (j : Nat) = i) (hn : i < M.2.2.1) : SO l D cid M X pc (o_astore i) (pc + 1) := by
  intro lv st f bc bs k h hk H locs cells slots ls hl hw hS hc hs
  obtain ⟨v, r, rfl, h⟩ := h
  obtain ⟨l0, h1, h2⟩ := hl
  cases v with
  | none => exact lv_astore_nN hX.1 hX.2.1 d hi h1 hn rfl (fun ls' h' => hk _ _ _ _ _ h H locs cells slots ls' (lvr_set h2 rfl h') hw hS hc hs)
  | some a => exact lv_astore_n hX.1 hX.2.1 d hi h1 hn rfl (fun ls' h' => hk _ _ _ _ _ h H locs cells slots ls' (lvr_set h2 rfl h') hw hS hc hs)
theorem so_astore {i : Nat} (hX : OK l D cid M X Post) (d : decode M.2.1 pc = .ok (.astore i, 2)) (hn : i < M.2.2.1) : SO l D cid M X pc (o_astore i) (pc + 2) := by
  intro lv st f bc bs k h hk H locs cells slots ls hl hw hS hc hs
  obtain ⟨v, r, rfl, h⟩ := h
  obtain ⟨l0, h1, h2⟩ := hl
  cases v with
  | none => exact lv_astoreN hX.1 hX.2.1 d h1 hn rfl (fun ls' h' => hk _ _ _ _ _ h H locs cells slots ls' (lvr_set h2 rfl h') hw hS hc hs)
  | some a => exact lv_astore hX.1 hX.2.1 d h1 hn rfl (fun ls' h' => hk _ _ _ _ _ h H locs cells slots ls' (lvr_set h2 rfl h') hw hS hc hs)
theorem so_iinc {i : Nat} {n : Int} {v : Int32} (hX : OK l D cid M X Post) (d : decode M.2.1 pc = .ok (.iinc i n, 3)) (hv : Int32.ofInt n = v) (hn : i < M.2.2.1) : SO l D cid M X pc (o_iinc i v) (pc + 3) := by
  intro lv st f bc bs k h hk H locs cells slots ls hl hw hS hc hs
  obtain ⟨x, hx, h⟩ := h
  obtain ⟨l0, h1, h2⟩ := hl
  subst hv
  obtain ⟨q, hq⟩ := List.getElem?_of_mem (h2 i _ hx).1
  exact lv_iinc hX.1 hX.2.1 d h1 hq rfl hn rfl (fun ls' h' => hk _ _ _ _ _ h H locs cells slots ls' (lvr_set h2 rfl h') hw hS hc hs)
theorem so_iadd (hX : OK l D cid M X Post) (d : decode M.2.1 pc = .ok (.iadd, 1)) : SO l D cid M X pc (o_bin (fun x y => x + y)) (pc + 1) := by
  intro lv st f bc bs k h hk H locs cells slots ls hl hw hS hc hs
  obtain ⟨x, y, r, rfl, h⟩ := h
  exact lv_iadd hX.1 hX.2.1 d (hk _ _ _ _ _ h H locs cells slots ls hl hw hS hc hs)
theorem so_isub (hX : OK l D cid M X Post) (d : decode M.2.1 pc = .ok (.isub, 1)) : SO l D cid M X pc (o_bin (fun x y => x - y)) (pc + 1) := by
  intro lv st f bc bs k h hk H locs cells slots ls hl hw hS hc hs
  obtain ⟨x, y, r, rfl, h⟩ := h
  exact lv_isub hX.1 hX.2.1 d (hk _ _ _ _ _ h H locs cells slots ls hl hw hS hc hs)
theorem so_imul (hX : OK l D cid M X Post) (d : decode M.2.1 pc = .ok (.imul, 1)) : SO l D cid M X pc (o_bin (fun x y => x * y)) (pc + 1) := by
  intro lv st f bc bs k h hk H locs cells slots ls hl hw hS hc hs
  obtain ⟨x, y, r, rfl, h⟩ := h
  exact lv_imul hX.1 hX.2.1 d (hk _ _ _ _ _ h H locs cells slots ls hl hw hS hc hs)
theorem so_iand (hX : OK l D cid M X Post) (d : decode M.2.1 pc = .ok (.iand, 1)) : SO l D cid M X pc (o_bin (fun x y => x &&& y)) (pc + 1) := by
  intro lv st f bc bs k h hk H locs cells slots ls hl hw hS hc hs
  obtain ⟨x, y, r, rfl, h⟩ := h
  exact lv_iand hX.1 hX.2.1 d (hk _ _ _ _ _ h H locs cells slots ls hl hw hS hc hs)
theorem so_ixor (hX : OK l D cid M X Post) (d : decode M.2.1 pc = .ok (.ixor, 1)) : SO l D cid M X pc (o_bin (fun x y => x ^^^ y)) (pc + 1) := by
  intro lv st f bc bs k h hk H locs cells slots ls hl hw hS hc hs
  obtain ⟨x, y, r, rfl, h⟩ := h
  exact lv_ixor hX.1 hX.2.1 d (hk _ _ _ _ _ h H locs cells slots ls hl hw hS hc hs)
theorem so_idiv (hX : OK l D cid M X Post) (d : decode M.2.1 pc = .ok (.idiv, 1)) : SO l D cid M X pc (o_binz (fun x y => x / y)) (pc + 1) := by
  intro lv st f bc bs k h hk H locs cells slots ls hl hw hS hc hs
  obtain ⟨x, y, r, rfl, h0, h⟩ := h
  exact lv_idiv hX.1 hX.2.1 d h0 (hk _ _ _ _ _ h H locs cells slots ls hl hw hS hc hs)
theorem so_irem (hX : OK l D cid M X Post) (d : decode M.2.1 pc = .ok (.irem, 1)) : SO l D cid M X pc (o_binz (fun x y => x - x / y * y)) (pc + 1) := by
  intro lv st f bc bs k h hk H locs cells slots ls hl hw hS hc hs
  obtain ⟨x, y, r, rfl, h0, h⟩ := h
  exact lv_irem hX.1 hX.2.1 d h0 (hk _ _ _ _ _ h H locs cells slots ls hl hw hS hc hs)
theorem so_dup (hX : OK l D cid M X Post) (d : decode M.2.1 pc = .ok (.dup, 1)) : SO l D cid M X pc o_dup (pc + 1) := by
  intro lv st f bc bs k h hk H locs cells slots ls hl hw hS hc hs
  obtain ⟨v, r, rfl, hv, h⟩ := h
  exact lv_dup hX.1 hX.2.1 d hv (hk _ _ _ _ _ h H locs cells slots ls hl hw hS hc hs)
theorem so_dup2 (hX : OK l D cid M X Post) (d : decode M.2.1 pc = .ok (.dup2, 1)) : SO l D cid M X pc o_dup2 (pc + 1) := by
  intro lv st f bc bs k h hk H locs cells slots ls hl hw hS hc hs
  obtain ⟨v, w, r, rfl, hv, hw1, h⟩ := h
  exact lv_dup2_11 hX.1 hX.2.1 d hv hw1 (hk _ _ _ _ _ h H locs cells slots ls hl hw hS hc hs)
theorem is_len {fs : List Value} {j : Nat} (h : (fs[j]?).isSome = true) : j < fs.length := by
  cases hc : fs[j]? with
  | none => rw [hc] at h; cases h
  | some w => exact (List.getElem?_eq_some_iff.mp hc).1
theorem so_getf {C : String} {T : u_T} {N idx ci j : Nat} (hX : OK l D cid M X Post) (d : decode M.2.1 pc = .ok (.getfield idx, 3)) (hin : ∀ w ∈ u_ws C T N, w ∈ TB) (hc : Cl[ci]? = some (C, T, N)) (hj : j < N) (hl : Cond.fieldLink M.1.cls idx (T j).1 (T j).2.1 (T j).2.2.1 ∈ TB) : SO l D cid M X pc (o_getf ci j) (pc + 3) := by
  intro lv st f bc bs k h hk H locs cells slots ls hlv hw hS hce hsl
  obtain ⟨a, r, rfl, fs, hf, v, hv, h⟩ := h
  obtain ⟨L, hL, hP, hD⟩ := hw
  obtain ⟨q0, hq⟩ := wl_get (cid := cid) hL hf
  exact va_get (own := M.1.cls) (D := D) (cl := Cl) hX.1 hX.2.1 hX.2.2.2.2.1 hin hX.2.2.2.1 hX.2.2.2.2.2.1 hP q0 hq hc j hj (hX.2.2.2.2.1 _ hl) (fun _ h9 => h9) hv d (hk _ _ _ _ _ h H locs cells slots ls hlv ⟨L, hL, hP, hD⟩ hS hce hsl)
theorem so_put {ok : Value → Prop} {ty : FieldType} (hok : ∀ v, ok v → narrow ty v = v ∧ fits ty v = true) {C : String} {T : u_T} {N idx ci j : Nat} {ty0 : Nat → FieldType} (hX : OK l D cid M X Post) (d : decode M.2.1 pc = .ok (.putfield idx, 3)) (hin : ∀ w ∈ u_ws C T N, w ∈ TB) (hty : ∀ k, k < N → parseFieldDescriptor (T k).2.2.1 = some (ty0 k)) (hnm : ∀ a, a < N → ∀ b, b < N → a ≠ b → (T a).2.1 ≠ (T b).2.1)
    (hc : Cl[ci]? = some (C, T, N)) (hj : j < N) (hl : Cond.fieldLink M.1.cls idx (T j).1 (T j).2.1 (T j).2.2.1 ∈ TB) (ht : ty0 j = ty) (hfin : (T j).2.2.2 = false) : SO l D cid M X pc (o_put ok ci j) (pc + 3) := by
  intro lv st f bc bs k h hk H locs cells slots ls hlv hw hS hce hsl
  obtain ⟨v, a, r, rfl, hv, fs, hf, hjs, h⟩ := h
  have hjl : j < fs.length := is_len hjs
  obtain ⟨L, hL, hP, hD⟩ := hw
  obtain ⟨q0, hq⟩ := wl_get (cid := cid) hL hf
  refine va_put (own := M.1.cls) (D := D) (cl := Cl) hX.1 hX.2.1 hX.2.2.2.2.1 hin ty0 hty hnm hX.2.2.2.1 hX.2.2.2.2.2.1 hP hD hS q0 hq hc j hj (hX.2.2.2.2.1 _ hl) (fun _ h9 => h9) hfin ((hty j hj).trans (congrArg some ht)) (hok v hv).1 (hok v hv).2 hjl d (fun H1 locs1 hP1 hD1 hS1 => ?_)
  exact hk _ _ _ _ _ h H1 locs1 cells slots ls hlv (wl_put (c' := .inl (ci, fs.set j v)) hL hD hf hq hP1 hD1) hS1 hce hsl
theorem so_putF {ok : Value → Prop} {ty : FieldType} (hok : ∀ v, ok v → narrow ty v = v ∧ fits ty v = true) {C : String} {T : u_T} {N idx ci j : Nat} {ty0 : Nat → FieldType} (hX : OK l D cid M X Post) (d : decode M.2.1 pc = .ok (.putfield idx, 3)) (hin : ∀ w ∈ u_ws C T N, w ∈ TB) (hty : ∀ k, k < N → parseFieldDescriptor (T k).2.2.1 = some (ty0 k)) (hnm : ∀ a, a < N → ∀ b, b < N → a ≠ b → (T a).2.1 ≠ (T b).2.1)
    (hc : Cl[ci]? = some (C, T, N)) (hj : j < N) (hl : Cond.fieldLink M.1.cls idx (T j).1 (T j).2.1 (T j).2.2.1 ∈ TB) (ht : ty0 j = ty) (hfin : (T j).2.2.2 = true) (hi : M.1.name = "<init>") (hdecl : (T j).1 = M.1.cls) : SO l D cid M X pc (o_put ok ci j) (pc + 3) := by
  intro lv st f bc bs k h hk H locs cells slots ls hlv hw hS hce hsl
  obtain ⟨v, a, r, rfl, hv, fs, hf, hjs, h⟩ := h
  have hjl : j < fs.length := is_len hjs
  obtain ⟨L, hL, hP, hD⟩ := hw
  obtain ⟨q0, hq⟩ := wl_get (cid := cid) hL hf
  refine va_putF (own := M.1.cls) (D := D) (cl := Cl) hX.1 hX.2.1 hX.2.2.2.2.1 hin ty0 hty hnm hX.2.2.2.1 hX.2.2.2.2.2.1 hP hD hS q0 hq hc j hj (hX.2.2.2.2.1 _ hl) (fun _ h9 => h9) hfin (hX.2.2.2.2.2.2.2.1 hi) hdecl ((hty j hj).trans (congrArg some ht)) (hok v hv).1 (hok v hv).2 hjl d (fun H1 locs1 hP1 hD1 hS1 => ?_)
  exact hk _ _ _ _ _ h H1 locs1 cells slots ls hlv (wl_put (c' := .inl (ci, fs.set j v)) hL hD hf hq hP1 hD1) hS1 hce hsl
theorem ok_I : ∀ v, okI v → narrow .int v = v ∧ fits .int v = true := by
  rintro v ⟨x, rfl⟩
  exact ⟨rfl, rfl⟩
theorem ok_Z : ∀ v, okZ v → narrow .boolean v = v ∧ fits .boolean v = true := by
  rintro v (rfl | rfl) <;> exact ⟨by decide, by decide⟩
theorem ok_O (C : String) : ∀ v, okR v → narrow (.object C) v = v ∧ fits (.object C) v = true := by
  rintro v ⟨r, rfl⟩
  cases r <;> exact ⟨rfl, rfl⟩
theorem ok_A (t : FieldType) : ∀ v, okR v → narrow (.array t) v = v ∧ fits (.array t) v = true := by
  rintro v ⟨r, rfl⟩
  cases r <;> exact ⟨rfl, rfl⟩
theorem so_iald (hX : OK l D cid M X Post) (d : decode M.2.1 pc = .ok (.iaload, 1)) : SO l D cid M X pc (o_ald 0) (pc + 1) := by
  intro lv st f bc bs k h hk H locs cells slots ls hlv hw hS hce hsl
  obtain ⟨i, a, r, rfl, n, g, hf, hin, h⟩ := h
  obtain ⟨L, hL, hP, hD⟩ := hw
  obtain ⟨q0, hq⟩ := wl_get (cid := cid) hL hf
  exact va_iald (D := D) (cl := Cl) hX.1 hX.2.1 hX.2.2.2.2.2.1 hP q0 0 hq rfl hin d (hk _ _ _ _ _ h H locs cells slots ls hlv ⟨L, hL, hP, hD⟩ hS hce hsl)
theorem so_zald (hX : OK l D cid M X Post) (d : decode M.2.1 pc = .ok (.baload, 1)) : SO l D cid M X pc (o_ald 1) (pc + 1) := by
  intro lv st f bc bs k h hk H locs cells slots ls hlv hw hS hce hsl
  obtain ⟨i, a, r, rfl, n, g, hf, hin, h⟩ := h
  obtain ⟨L, hL, hP, hD⟩ := hw
  obtain ⟨q0, hq⟩ := wl_get (cid := cid) hL hf
  exact va_zald (D := D) (cl := Cl) hX.1 hX.2.1 hX.2.2.2.2.2.1 hP q0 1 hq rfl hin d (hk _ _ _ _ _ h H locs cells slots ls hlv ⟨L, hL, hP, hD⟩ hS hce hsl)
theorem so_iast (hX : OK l D cid M X Post) (d : decode M.2.1 pc = .ok (.iastore, 1)) : SO l D cid M X pc o_ast (pc + 1) := by
  intro lv st f bc bs k h hk H locs cells slots ls hlv hw hS hce hsl
  obtain ⟨x, i, a, r, rfl, n, g, hf, hin, h⟩ := h
  obtain ⟨L, hL, hP, hD⟩ := hw
  obtain ⟨q0, hq⟩ := wl_get (cid := cid) hL hf
  refine va_iast (D := D) (cl := Cl) hX.1 hX.2.1 hX.2.2.2.2.2.1 hP hD hS q0 0 hq rfl hin d (fun H1 locs1 hP1 hD1 hS1 => ?_)
  exact hk _ _ _ _ _ h H1 locs1 cells slots ls hlv (wl_put (c' := .inr (.inl (0, n, upd g i.toNatClampNeg x))) hL hD hf hq hP1 hD1) hS1 hce hsl
theorem so_zast (hX : OK l D cid M X Post) (d : decode M.2.1 pc = .ok (.bastore, 1)) : SO l D cid M X pc o_zst (pc + 1) := by
  intro lv st f bc bs k h hk H locs cells slots ls hlv hw hS hce hsl
  obtain ⟨x, i, a, r, rfl, hx, n, g, hf, hin, h⟩ := h
  obtain ⟨L, hL, hP, hD⟩ := hw
  obtain ⟨q0, hq⟩ := wl_get (cid := cid) hL hf
  have hz : vp_nar .boolean x = x := by rcases hx with rfl | rfl <;> decide
  refine va_zast (D := D) (cl := Cl) hX.1 hX.2.1 hX.2.2.2.2.2.1 hP hD hS q0 1 hq rfl hin d (fun H1 locs1 hP1 hD1 hS1 => ?_)
  rw [hz] at hP1 hD1
  exact hk _ _ _ _ _ h H1 locs1 cells slots ls hlv (wl_put (c' := .inr (.inl (1, n, upd g i.toNatClampNeg x))) hL hD hf hq hP1 hD1) hS1 hce hsl
theorem so_aldq {C : String} {kd : Nat} (hX : OK l D cid M X Post) (d : decode M.2.1 pc = .ok (.aaload, 1)) (ht : (tysL cid)[kd]? = some (cid kd, .object C)) : SO l D cid M X pc (o_aldq kd) (pc + 1) := by
  intro lv st f bc bs k h hk H locs cells slots ls hlv hw hS hce hsl
  obtain ⟨i, a, r, rfl, n, g, hf, hin, h⟩ := h
  obtain ⟨L, hL, hP, hD⟩ := hw
  obtain ⟨q0, hq⟩ := wl_get (cid := cid) hL hf
  exact va_aldq (D := D) (cl := Cl) hX.1 hX.2.1 hX.2.2.2.2.2.1 hP q0 kd hq ht hin d (hk _ _ _ _ _ h H locs cells slots ls hlv ⟨L, hL, hP, hD⟩ hS hce hsl)
theorem so_astq {r0 : vw_C} {kd ci : Nat} (hX : OK l D cid M X Post) (d : decode M.2.1 pc = .ok (.aastore, 1)) (ht : (tysL cid)[kd]? = some (cid kd, .object r0.1)) (hc : Cl[ci]? = some r0) : SO l D cid M X pc (o_astq kd ci) (pc + 1) := by
  intro lv st f bc bs k h hk H locs cells slots ls hlv hw hS hce hsl
  obtain ⟨w, i, a, r, rfl, hv, n, g, hf, hin, h⟩ := h
  obtain ⟨L, hL, hP, hD⟩ := hw
  obtain ⟨q0, hq⟩ := wl_get (cid := cid) hL hf
  cases w with
  | none =>
    refine va_astqN (D := D) (cl := Cl) hX.1 hX.2.1 hX.2.2.2.2.2.1 hP hD hS q0 kd hq ht hin d (fun H1 locs1 hP1 hD1 hS1 => ?_)
    exact hk _ _ _ _ _ h H1 locs1 cells slots ls hlv (wl_put (c' := .inr (.inr (kd, n, va_up g i.toNatClampNeg none))) hL hD hf hq hP1 hD1) hS1 hce hsl
  | some v =>
    obtain ⟨vs, hvs⟩ := hv v rfl
    obtain ⟨q1, hq1⟩ := wl_get (cid := cid) hL hvs
    refine va_astq (D := D) (cl := Cl) hX.1 hX.2.1 hX.2.2.2.2.2.1 hP hD hS q0 kd q1 ci hq ht hq1 hc hin d (fun H1 locs1 hP1 hD1 hS1 => ?_)
    exact hk _ _ _ _ _ h H1 locs1 cells slots ls hlv (wl_put (c' := .inr (.inr (kd, n, va_up g i.toNatClampNeg (some v)))) hL hD hf hq hP1 hD1) hS1 hce hsl
theorem so_alen {kd : Nat} {ty : FieldType} (hX : OK l D cid M X Post) (d : decode M.2.1 pc = .ok (.arraylength, 1)) (ht : (tysL cid)[kd]? = some (cid kd, ty)) : SO l D cid M X pc (o_alen kd) (pc + 1) := by
  intro lv st f bc bs k h hk H locs cells slots ls hlv hw hS hce hsl
  obtain ⟨a, r, rfl, n, g, hf, h⟩ := h
  obtain ⟨L, hL, hP, hD⟩ := hw
  obtain ⟨q0, hq⟩ := wl_get (cid := cid) hL hf
  exact va_alen (D := D) (cl := Cl) hX.1 hX.2.1 hX.2.2.2.2.2.1 hP q0 kd hq ht rfl d (hk _ _ _ _ _ h H locs cells slots ls hlv ⟨L, hL, hP, hD⟩ hS hce hsl)
theorem so_alenq {kd : Nat} {ty : FieldType} (hX : OK l D cid M X Post) (d : decode M.2.1 pc = .ok (.arraylength, 1)) (ht : (tysL cid)[kd]? = some (cid kd, ty)) : SO l D cid M X pc (o_alenq kd) (pc + 1) := by
  intro lv st f bc bs k h hk H locs cells slots ls hlv hw hS hce hsl
  obtain ⟨a, r, rfl, n, g, hf, h⟩ := h
  obtain ⟨L, hL, hP, hD⟩ := hw
  obtain ⟨q0, hq⟩ := wl_get (cid := cid) hL hf
  exact va_alen (D := D) (cl := Cl) hX.1 hX.2.1 hX.2.2.2.2.2.1 hP q0 kd hq ht rfl d (hk _ _ _ _ _ h H locs cells slots ls hlv ⟨L, hL, hP, hD⟩ hS hce hsl)
theorem tys_same {cA : ClassId} {kd : Nat} {ty : FieldType} {s : State} (hK : va_K D Cl (tysL cid) s) (ht : (tysL cid)[kd]? = some (cid kd, ty)) (hr : va_RA s cA ty) : cA = cid kd := by
  have h1 := (hK.2 kd _ ht).2
  cases ty with
  | object C =>
    obtain ⟨_, _, _, _, _, h2⟩ := h1
    obtain ⟨_, _, _, _, _, h3⟩ := hr
    exact Option.some.inj (h3.symm.trans h2)
  | _ => exact Option.some.inj ((show s.vm.findClass _ = some cA from hr).symm.trans (show s.vm.findClass _ = some (cid kd) from h1))
theorem tys_last {cA : ClassId} {ty : FieldType} {s : State} {tys : List (ClassId × FieldType)} (hK : va_K D Cl (tys ++ [(cA, ty)]) s) : va_RA s cA ty := (hK.2 tys.length (cA, ty) (by simp)).2
theorem so_newI {atype : ArrayType} {kd : Nat} {ty : FieldType} (hX : OK l D cid M X Post) (d : decode M.2.1 pc = .ok (.newarray atype, 2)) (hty : newarray.typeOf atype = ty) (harr : Cond.arrayClass (newarray.typeOf atype) ∈ TB) (ht : (tysL cid)[kd]? = some (cid kd, ty)) (hb : componentBytes ty ≤ 4)
    (h0 : ∀ (cA : ClassId) (N : Nat), vp_cell cA (N, .inl (fun _ => (0 : Int32))) = arrV cA N (fun _ => defaultValue ty)) : SO l D cid M X pc (o_newI kd) (pc + 2) := by
  intro lv st f bc bs k h hk H locs cells slots ls hlv hw hS hce hsl
  obtain ⟨n, r, rfl, hn, hN, h1, h2, h⟩ := h
  obtain ⟨L, hL, hP, hD⟩ := hw
  refine va_newa (D := D) (cl := Cl) (a0 := (n.toNatClampNeg, .inl (fun _ => (0 : Int32)))) hX.1 hX.2.1 (hX.2.2.2.2.1 _ harr) hty hX.2.2.2.2.2.1 hP hD hS hX.2.2.2.2.2.2.1 (fun cA => h0 cA _) hn rfl (Nat.le_trans (Nat.mul_le_mul hN hb) (by decide)) (by omega) (by omega) d (fun q cA H1 hK1 hP1 hD1 hS1 => ?_)
  have hcA : cA = cid kd := tys_same hX.2.2.2.2.2.1 ht (tys_last hK1)
  subst hcA
  obtain ⟨hq, hw1⟩ := wl_new (c := .inr (.inl (kd, n.toNatClampNeg, fun _ => 0))) hL hP1 hD1
  exact hk _ _ _ _ _ (h q hq) H1 locs (cells + 1) (slots + n.toNatClampNeg) ls hlv hw1 hS1 (by omega) (by omega)
theorem so_newQ {C : String} {kd idx : Nat} (hX : OK l D cid M X Post) (d : decode M.2.1 pc = .ok (.anewarray idx, 3)) (hcl : Cond.classLink M.1.cls idx C ∈ TB) (hov : va_AO C X.2.2.1) (ht : (tysL cid)[kd]? = some (cid kd, .object C)) : SO l D cid M X pc (o_newQ kd) (pc + 3) := by
  intro lv st f bc bs k h hk H locs cells slots ls hlv hw hS hce hsl
  obtain ⟨n, r, rfl, hn, hN, h1, h2, h⟩ := h
  obtain ⟨L, hL, hP, hD⟩ := hw
  refine va_newq (own := M.1.cls) (D := D) (cl := Cl) (C := C) hX.1 hX.2.1 hX.2.2.2.1 (hX.2.2.2.2.1 _ hcl) hov hX.2.2.2.2.2.1 hP hD hS hX.2.2.2.2.2.2.1 hn rfl (Nat.le_trans (Nat.mul_le_mul hN (Nat.le_refl 4)) (by decide)) (by omega) (by omega) d (fun q cA H1 hK1 hP1 hD1 hS1 => ?_)
  have hcA : cA = cid kd := tys_same hX.2.2.2.2.2.1 ht (tys_last hK1)
  subst hcA
  obtain ⟨hq, hw1⟩ := wl_new (c := .inr (.inr (kd, n.toNatClampNeg, fun _ => none))) hL hP1 hD1
  exact hk _ _ _ _ _ (h q hq) H1 locs (cells + 1) (slots + n.toNatClampNeg) ls hlv hw1 hS1 (by omega) (by omega)
theorem so_new {C : String} {T : u_T} {N idx ci : Nat} {fs : List Value} {ty0 : Nat → FieldType} (hX : OK l D cid M X Post) (d : decode M.2.1 pc = .ok (.new idx, 3)) (hin : ∀ w ∈ u_ws C T N, w ∈ TB) (hty : ∀ k, k < N → parseFieldDescriptor (T k).2.2.1 = some (ty0 k)) (hcl : Cond.classLink M.1.cls idx C ∈ TB) (hinst : Cond.instantiable C N ∈ TB) (hini : Cond.initialized C ∈ TB)
    (hc : Cl[ci]? = some (C, T, N)) (hfs : ∀ j, j < N → defaultValue (ty0 j) = vp_V fs j) : SO l D cid M X pc (o_new ci N fs) (pc + 3) := by
  intro lv st f bc bs k h hk H locs cells slots ls hlv hw hS hce hsl
  obtain ⟨h1, h2, h⟩ := h
  obtain ⟨L, hL, hP, hD⟩ := hw
  refine va_new (own := M.1.cls) (D := D) (cl := Cl) hX.1 hX.2.1 hX.2.2.2.2.1 hin ty0 hty hX.2.2.2.1 (hX.2.2.2.2.1 _ hcl) (hX.2.2.2.2.1 _ hinst) (hX.2.2.2.2.1 _ hini) hX.2.2.2.2.2.1 hP hD hS hX.2.2.2.2.2.2.1 hc hfs (by omega) (by omega) d (fun q H1 hP1 hD1 hS1 => ?_)
  obtain ⟨hq, hw1⟩ := wl_new (c := .inl (ci, fs)) hL hP1 hD1
  exact hk _ _ _ _ _ (h q hq) H1 locs (cells + 1) (slots + N) ls hlv hw1 hS1 (by omega) (by omega)
theorem so_goto {off : Int} {tgt : Nat} (hX : OK l D cid M X Post) (d : decode M.2.1 pc = .ok (.goto off, 3)) (ht : (pc : Int) + off = (tgt : Int)) : SS l D cid M X pc [] (FR l D cid M X tgt) := by
  intro lv st f bc bs h H locs cells slots ls hlv hw hS hce hsl
  exact lv_goto hX.1 hX.2.1 d ht (h H locs cells slots ls hlv hw hS hce hsl)
end SOUND
