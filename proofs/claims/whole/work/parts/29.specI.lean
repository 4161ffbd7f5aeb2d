section SPR
variable {l : Launch} {D : va_G} {cid : Nat → ClassId} {F : HF} {A : Nat → Nat} {N i : Nat} {cs : Nat → PC}
abbrev cL0 : PC := .inl (0, [.null, .int 0, .int 0, .int 0, .int 0, .int 0])
abbrev cI0 (N : Nat) : PC := .inr (.inl (0, N, fun _ => 0))
abbrev cQ0 (N : Nat) : PC := .inr (.inr (2, N, fun _ => none))
abbrev cR0 (i q1 q2 q3 q4 q5 q6 : Nat) : PC := .inl (2, [.int (nI i), .int 0, .int 0, .int 0, .ref q1, .int 0, .ref q2, .ref q3, .int 0, .ref q4, .ref q5, .ref q6, .int 0])
theorem sp_P_init0 (hA : AI 1 A) (hN : N ≤ 5) (h0 : cs 0 = .inl (2, df_P)) : CS l D cid m_P_init [.ref (A 0), .int (nI i), .int (nI N)] (hC 1 A F cs) (fun v F' => v = none ∧ ∃ q1 q2 q3 q4 q5 q6, (¬ isA 1 A q1 ∧ ¬ isA 1 A q2 ∧ ¬ isA 1 A q3 ∧ ¬ isA 1 A q4 ∧ ¬ isA 1 A q5 ∧ ¬ isA 1 A q6) ∧
    (F q1 = none ∧ hup F q1 cL0 q2 = none ∧ hup (hup F q1 cL0) q2 (cI0 N) q3 = none ∧ hup (hup (hup F q1 cL0) q2 (cI0 N)) q3 (cI0 N) q4 = none ∧ hup (hup (hup (hup F q1 cL0) q2 (cI0 N)) q3 (cI0 N)) q4 (cQ0 N) q5 = none ∧ hup (hup (hup (hup (hup F q1 cL0) q2 (cI0 N)) q3 (cI0 N)) q4 (cQ0 N)) q5 (cQ0 N) q6 = none) ∧
    F' = hC 1 A (hup (hup (hup (hup (hup (hup F q1 cL0) q2 (cI0 N)) q3 (cI0 N)) q4 (cQ0 N)) q5 (cQ0 N)) q6 (cQ0 N)) (va_up cs 0 (cR0 i q1 q2 q3 q4 q5 q6))) := by
  intro X hX
  have h : 0 < 1 := Nat.zero_lt_one
  refine b_P_init_0 hX _ _ _ _ _ (i_aload rfl <| i_obj <| i_aload rfl <| i_push <| c_putI hA h h0 rfl <| i_aload rfl <| i_push <| c_putI hA h (va_s _ _ _) rfl <| i_aload rfl <| i_push <| c_putI hA h (va_s _ _ _) rfl <| i_aload rfl <| i_new ⟨by decide, by decide⟩ fun q1 hq1 => i_dup <| ?_)
  refine j_upI (sp_L_init (hup_s _ _ _)) rfl rfl ?_
  obtain ⟨a1, b1⟩ := hC_none hq1
  rw [hup_hup, hC_new hq1]
  refine (c_putR hA h (va_s _ _ _) rfl <| i_aload rfl <| i_push <| c_putI hA h (va_s _ _ _) rfl <| i_aload rfl <| i_push <| c_putZ hA h (va_s _ _ _) rfl <| i_aload rfl <| i_push <| c_putI hA h (va_s _ _ _) rfl <| i_aload rfl <| i_iload rfl <| c_putI hA h (va_s _ _ _) rfl <| i_aload rfl <| i_iload rfl <| i_newI ⟨rfl, by omega⟩ ⟨by decide, (show N ≤ 326 - 6 - 0 from by omega)⟩ fun q2 hq2 => ?_)
  obtain ⟨a2, b2⟩ := hC_none hq2
  rw [hC_new hq2]
  refine (c_putR hA h (va_s _ _ _) rfl <| i_aload rfl <| i_iload rfl <| i_newI ⟨rfl, by omega⟩ ⟨by decide, (show N ≤ 326 - 6 - 0 - N from by omega)⟩ fun q3 hq3 => ?_)
  obtain ⟨a3, b3⟩ := hC_none hq3
  rw [hC_new hq3]
  refine (c_putR hA h (va_s _ _ _) rfl <| i_aload rfl <| i_iload rfl <| i_newQ ⟨rfl, by omega⟩ ⟨by decide, (show N ≤ 326 - 6 - 0 - N - N from by omega)⟩ fun q4 hq4 => ?_)
  obtain ⟨a4, b4⟩ := hC_none hq4
  rw [hC_new hq4]
  refine (c_putR hA h (va_s _ _ _) rfl <| i_aload rfl <| i_iload rfl <| i_newQ ⟨rfl, by omega⟩ ⟨by decide, (show N ≤ 326 - 6 - 0 - N - N - N from by omega)⟩ fun q5 hq5 => ?_)
  obtain ⟨a5, b5⟩ := hC_none hq5
  rw [hC_new hq5]
  refine (c_putR hA h (va_s _ _ _) rfl <| i_aload rfl <| i_iload rfl <| i_newQ ⟨rfl, by omega⟩ ⟨by decide, (show N ≤ 326 - 6 - 0 - N - N - N - N from by omega)⟩ fun q6 hq6 => ?_)
  obtain ⟨a6, b6⟩ := hC_none hq6
  rw [hC_new hq6]
  refine (c_putR hA h (va_s _ _ _) rfl <| i_ret ?_)
  refine ⟨rfl, q1, q2, q3, q4, q5, q6, ⟨a1, a2, a3, a4, a5, a6⟩, ⟨b1, b2, b3, b4, b5, b6⟩, ?_⟩
  simp only [va_va]
  rfl
end SPR
