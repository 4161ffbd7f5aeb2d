section GIN2
variable {l : Launch} {D : va_G} {cid : Nat → ClassId} {F : HF} {A : Nat → Nat} {N K : Nat} {cs : Nat → PC}
theorem rem2 (x : Int32) : (x - x / 2 * 2 = 0) ↔ (x &&& 1 = 0) := by
  have h2 : (2 : Int32).toInt = 2 := by decide
  have h1 : (x / 2).toInt = x.toInt.tdiv 2 := by rw [Int32.toInt_div_of_ne_right x 2 (by decide), h2]
  have hb1 := Int32.le_toInt x
  have hb2 := Int32.toInt_lt x
  have hm := tmod_bounds (a := x.toInt) (M := 2) (by decide)
  have hs : 0 ≤ x.toInt → 0 ≤ x.toInt.tmod 2 := Int.tmod_nonneg 2
  have hd := Int.mul_tdiv_add_tmod x.toInt 2
  have h3 : (x / 2 * 2).toInt = x.toInt.tdiv 2 * 2 := by
    rw [Int32.toInt_mul, h1, h2]
    exact Int.bmod_eq_of_le (by omega) (by omega)
  have e1 : (x - x / 2 * 2 = 0) ↔ x.toInt.tmod 2 = 0 := by
    constructor
    · intro h
      have h4 : x = x / 2 * 2 := by
        have h6 := Int32.sub_add_cancel x (x / 2 * 2)
        rw [h, Int32.zero_add] at h6
        exact h6.symm
      have h5 : x.toInt = (x / 2 * 2).toInt := congrArg Int32.toInt h4
      omega
    · intro h
      have h5 : x = x / 2 * 2 := Int32.toInt_inj.mp (by omega)
      exact (congrArg (fun z => x - z) h5.symm).trans (Int32.sub_self x)
  have e2 : x &&& 1 = nI (x.toBitVec.toNat % 2) := pk_and x 1 (by decide)
  have e3 := BitVec.toInt_eq_toNat_cond x.toBitVec
  have e4 : x.toInt = x.toBitVec.toInt := rfl
  rw [e1, e2]
  have e5 : (nI (x.toBitVec.toNat % 2) = 0) ↔ x.toBitVec.toNat % 2 = 0 := nI_eq (b := 0) (by omega) (by omega)
  rw [e5]
  split at e3 <;> omega
theorem sp_G_init0 {x : Int32} (hA : AI 1 A) (h0 : cs 0 = .inl (3, df_G)) : CS l D cid m_G_init [.ref (A 0), .int x] (hC 1 A F cs) (fun v F' => v = none ∧ ∃ e cs', F' = hC (5 + 7 * nOf x) e F cs' ∧ AI (5 + 7 * nOf x) e ∧ e 0 = A 0 ∧ GF e cs' (nOf x) (nOf x)) := by
  intro X hX
  have h : 0 < 1 := Nat.zero_lt_one
  refine b_G_init_0 hX _ _ _ _ _ (i_aload rfl <| i_obj <| i_aload rfl <| i_push <| i_newQ (show (64 : Int32) = nI 64 ∧ 64 ≤ 100000 from ⟨rfl, by decide⟩) ⟨by decide, by decide⟩ fun q1 hq1 => ?_)
  obtain ⟨a1, b1⟩ := hC_none hq1
  rw [hC_new hq1]
  refine (c_putR hA h h0 rfl <| i_aload rfl <| i_push <| c_putI hA h (va_s _ _ _) rfl <| i_aload rfl <| i_push <| c_putI hA h (va_s _ _ _) rfl <| i_aload rfl <| i_push <| i_newI (show (4 : Int32) = nI 4 ∧ 4 ≤ 100000 from ⟨rfl, by decide⟩) ⟨by decide, by decide⟩ fun q2 hq2 => ?_)
  obtain ⟨a2, b2⟩ := hC_none hq2
  rw [hC_new hq2]
  refine (c_putR hA h (va_s _ _ _) rfl <| i_aload rfl <| i_push <| i_newI (show (4 : Int32) = nI 4 ∧ 4 ≤ 100000 from ⟨rfl, by decide⟩) ⟨by decide, by decide⟩ fun q3 hq3 => ?_)
  obtain ⟨a3, b3⟩ := hC_none hq3
  rw [hC_new hq3]
  refine (c_putR hA h (va_s _ _ _) rfl <| i_aload rfl <| i_iload rfl <| i_push <| i_binz (by decide) <| i_if ?_ ?_)
  · intro hx
    have hnx : nOf x = 5 := if_pos (fun q => hx ((rem2 x).mpr q))
    refine b_G_init_48 hX _ _ _ _ _ (i_push <| i_end ?_)
    refine b_G_init_49 hX _ _ _ _ _ (c_putI hA h (va_s _ _ _) rfl <| i_aload rfl <| i_aload rfl <| i_getf (c_cell hA h (va_s _ _ _)) rfl <| i_push <| i_binz (by decide) <| c_putI hA h (va_s _ _ _) rfl <| i_aload rfl <| i_aload rfl <| i_getf (c_cell hA h (va_s _ _ _)) rfl <| i_newQ (show (5 : Int32) = nI 5 ∧ 5 ≤ 100000 from ⟨rfl, by decide⟩) ⟨by decide, by decide⟩ fun q4 hq4 => ?_)
    obtain ⟨a4, b4⟩ := hC_none hq4
    rw [hC_new hq4]
    refine (c_putR hA h (va_s _ _ _) rfl <| i_push <| i_istore <| i_end ?_)
    simp only [va_va]
    generalize hcs : va_up cs 0 _ = cz
    have z0 : cz 0 = .inl (3, [.int (nI 5), .int (nI (5 / 2)), .ref q4, .ref q1, .int 0, .int (-1), .ref q2, .ref q3]) := by
      rw [← hcs, va_s]
      rfl
    rw [← hC_im a4, ← hC_im a3, ← hC_im a2, ← hC_im a1]
    have f1 : hC 1 A F cz q1 = none := (hC_no a1).trans b1
    have f2 : hup (hC 1 A F cz) q1 (.inr (.inr (2, 64, fun _ => none))) q2 = none := by
      rw [hC_im a1]
      exact (hC_no a2).trans b2
    have f3 : hup (hup (hC 1 A F cz) q1 (.inr (.inr (2, 64, fun _ => none)))) q2 (cI0 4) q3 = none := by
      rw [hC_im a1, hC_im a2]
      exact (hC_no a3).trans b3
    have f4 : hup (hup (hup (hC 1 A F cz) q1 (.inr (.inr (2, 64, fun _ => none)))) q2 (cI0 4)) q3 (cI0 4) q4 = none := by
      rw [hC_im a1, hC_im a2, hC_im a3]
      exact (hC_no a4).trans b4
    obtain ⟨e1, A1⟩ := hC_push hA f1 (.inr (.inr (2, 64, fun _ => none)))
    rw [e1] at f2 f3 f4 ⊢
    obtain ⟨e2, A2⟩ := hC_push A1 f2 (cI0 4)
    rw [e2] at f3 f4 ⊢
    obtain ⟨e3, A3⟩ := hC_push A2 f3 (cI0 4)
    rw [e3] at f4 ⊢
    obtain ⟨e4, A4⟩ := hC_push A3 f4 (.inr (.inr (3, 5, fun _ => none)))
    rw [e4]
    refine g_loop (N := 5) (p := A 0) hX (by decide) (fun e cs' h1 h2 h3 => ?_) 0 (by decide) _ _ _ _ A4 rfl ⟨?_, ⟨fun _ => none, rfl, fun i hi => by omega⟩, rfl, rfl, rfl, fun i hi => by omega⟩ (by decide) (by decide)
    · rw [hnx]
      exact ⟨rfl, e, cs', rfl, h1, h2, h3⟩
    · exact z0
  · intro hx
    have hnx : nOf x = 3 := if_neg (fun q => hx (fun z => q ((rem2 x).mp z)))
    refine b_G_init_44 hX _ _ _ _ _ (i_push <| i_end ?_)
    refine b_G_init_49 hX _ _ _ _ _ (c_putI hA h (va_s _ _ _) rfl <| i_aload rfl <| i_aload rfl <| i_getf (c_cell hA h (va_s _ _ _)) rfl <| i_push <| i_binz (by decide) <| c_putI hA h (va_s _ _ _) rfl <| i_aload rfl <| i_aload rfl <| i_getf (c_cell hA h (va_s _ _ _)) rfl <| i_newQ (show (3 : Int32) = nI 3 ∧ 3 ≤ 100000 from ⟨rfl, by decide⟩) ⟨by decide, by decide⟩ fun q4 hq4 => ?_)
    obtain ⟨a4, b4⟩ := hC_none hq4
    rw [hC_new hq4]
    refine (c_putR hA h (va_s _ _ _) rfl <| i_push <| i_istore <| i_end ?_)
    simp only [va_va]
    generalize hcs : va_up cs 0 _ = cz
    have z0 : cz 0 = .inl (3, [.int (nI 3), .int (nI (3 / 2)), .ref q4, .ref q1, .int 0, .int (-1), .ref q2, .ref q3]) := by
      rw [← hcs, va_s]
      rfl
    rw [← hC_im a4, ← hC_im a3, ← hC_im a2, ← hC_im a1]
    have f1 : hC 1 A F cz q1 = none := (hC_no a1).trans b1
    have f2 : hup (hC 1 A F cz) q1 (.inr (.inr (2, 64, fun _ => none))) q2 = none := by
      rw [hC_im a1]
      exact (hC_no a2).trans b2
    have f3 : hup (hup (hC 1 A F cz) q1 (.inr (.inr (2, 64, fun _ => none)))) q2 (cI0 4) q3 = none := by
      rw [hC_im a1, hC_im a2]
      exact (hC_no a3).trans b3
    have f4 : hup (hup (hup (hC 1 A F cz) q1 (.inr (.inr (2, 64, fun _ => none)))) q2 (cI0 4)) q3 (cI0 4) q4 = none := by
      rw [hC_im a1, hC_im a2, hC_im a3]
      exact (hC_no a4).trans b4
    obtain ⟨e1, A1⟩ := hC_push hA f1 (.inr (.inr (2, 64, fun _ => none)))
    rw [e1] at f2 f3 f4 ⊢
    obtain ⟨e2, A2⟩ := hC_push A1 f2 (cI0 4)
    rw [e2] at f3 f4 ⊢
    obtain ⟨e3, A3⟩ := hC_push A2 f3 (cI0 4)
    rw [e3] at f4 ⊢
    obtain ⟨e4, A4⟩ := hC_push A3 f4 (.inr (.inr (3, 3, fun _ => none)))
    rw [e4]
    refine g_loop (N := 3) (p := A 0) hX (by decide) (fun e cs' h1 h2 h3 => ?_) 0 (by decide) _ _ _ _ A4 rfl ⟨?_, ⟨fun _ => none, rfl, fun i hi => by omega⟩, rfl, rfl, rfl, fun i hi => by omega⟩ (by decide) (by decide)
    · rw [hnx]
      exact ⟨rfl, e, cs', rfl, h1, h2, h3⟩
    · exact z0
end GIN2
