section INIT2
variable {l : Launch} {D : va_G} {cid : Nat → ClassId} {F : HF} {A : Nat → Nat} {N : Nat} {cs : Nat → PC}
theorem hC_one {f : HF} {c : PC} (hA : AI 1 A) (h : cs 0 = c) : hC 1 A f cs = hC 1 A f (fun _ => c) := by
  funext a
  by_cases ha : isA 1 A a
  · obtain ⟨k, hk, rfl⟩ := ha
    rw [hC_at hA hk, hC_at hA hk, show k = 0 by omega, h]
  · rw [hC_no ha, hC_no ha]
def qf (g : Nat → Value) : List Value := [g 0, g 1, g 2, g 3, g 4, g 5, g 6, g 7, g 8, g 9, g 10, g 11, g 12, g 13, g 14, g 15, g 16, g 17, g 18, g 19, g 20, g 21, g 22, g 23, g 24, g 25, g 26, g 27, g 28, g 29, g 30, g 31]
theorem qf_set {g : Nat → Value} {v : Value} {j : Nat} (hj : j < 32) : (qf g).set j v = qf (va_up g j v) ∧ ((qf g)[j]?).isSome = true := by
  rcases j with _ | _ | _ | _ | _ | _ | _ | _ | _ | _ | _ | _ | _ | _ | _ | _ | _ | _ | _ | _ | _ | _ | _ | _ | _ | _ | _ | _ | _ | _ | _ | _ | j
  · exact ⟨rfl, rfl⟩
  · exact ⟨rfl, rfl⟩
  · exact ⟨rfl, rfl⟩
  · exact ⟨rfl, rfl⟩
  · exact ⟨rfl, rfl⟩
  · exact ⟨rfl, rfl⟩
  · exact ⟨rfl, rfl⟩
  · exact ⟨rfl, rfl⟩
  · exact ⟨rfl, rfl⟩
  · exact ⟨rfl, rfl⟩
  · exact ⟨rfl, rfl⟩
  · exact ⟨rfl, rfl⟩
  · exact ⟨rfl, rfl⟩
  · exact ⟨rfl, rfl⟩
  · exact ⟨rfl, rfl⟩
  · exact ⟨rfl, rfl⟩
  · exact ⟨rfl, rfl⟩
  · exact ⟨rfl, rfl⟩
  · exact ⟨rfl, rfl⟩
  · exact ⟨rfl, rfl⟩
  · exact ⟨rfl, rfl⟩
  · exact ⟨rfl, rfl⟩
  · exact ⟨rfl, rfl⟩
  · exact ⟨rfl, rfl⟩
  · exact ⟨rfl, rfl⟩
  · exact ⟨rfl, rfl⟩
  · exact ⟨rfl, rfl⟩
  · exact ⟨rfl, rfl⟩
  · exact ⟨rfl, rfl⟩
  · exact ⟨rfl, rfl⟩
  · exact ⟨rfl, rfl⟩
  · exact ⟨rfl, rfl⟩
  · omega
theorem q_grp {kd c j : Nat} {ls : List (Nat × PC)} {g : Nat → Value} {i : Int32} {os : List OP} {t : KN} {lv : LV} {st : List Value} {bc bs : Nat} (hA : AI 1 A) (hlv : lget lv 0 = some (.ref (A 0))) (hj : j < 32) (hi : i = nI c ∧ c ≤ 100000) (hb : 1 ≤ bc ∧ c ≤ bs)
    (k : ∀ q, ¬ isA 1 A q → hl F ls q = none → seg os t lv st (hC 1 A (hl F ((q, .inr (.inl (kd, c, fun _ => 0))) :: ls)) (fun _ => .inl (4, qf (va_up g j (.ref q))))) (bc - 1) (bs - c)) : seg (o_aload 0 :: o_push (.int i) :: o_newI kd :: o_put okR 4 j :: os) t lv st (hC 1 A (hl F ls) (fun _ => .inl (4, qf g))) bc bs := by
  refine i_aload hlv <| i_push <| i_newI hi hb fun q hq => ?_
  obtain ⟨a, b⟩ := hC_none hq
  rw [hC_new hq]
  refine c_putR (k := 0) hA (by omega) rfl (qf_set (v := .null) hj).2 ?_
  rw [hC_one hA (va_s _ _ _), (qf_set hj).1]
  exact k q a b
theorem q_putI {j : Nat} {f : HF} {g : Nat → Value} {x : Int32} {os : List OP} {t : KN} {lv : LV} {st : List Value} {bc bs : Nat} (hA : AI 1 A) (hj : j < 32)
    (k : seg os t lv st (hC 1 A f (fun _ => .inl (4, qf (va_up g j (.int x))))) bc bs) : seg (o_put okI 4 j :: os) t lv (.int x :: .ref (A 0) :: st) (hC 1 A f (fun _ => .inl (4, qf g))) bc bs := by
  refine c_putI (k := 0) hA (by omega) rfl (qf_set (v := .null) hj).2 ?_
  rw [hC_one hA (va_s _ _ _), (qf_set hj).1]
  exact k
theorem sp_Q_init0 {x : Int32} (hA : AI 1 A) (h0 : cs 0 = .inl (4, df_Q)) : CS l D cid m_Q_init [.ref (A 0), .int x] (hC 1 A F cs) (fun v F' => v = none ∧ ∃ B, F' = hQ F B (nOf x) s00 ∧ QI B ∧ B 0 = A 0 ∧ ∀ j, us j = true → ¬ j = 0 → F (B j) = none) := by
  intro X hX
  rw [hC_one hA h0]
  show FR l D cid m_Q_init X 0 _ [] (hC 1 A (hl F []) (fun _ => .inl (4, qf (fun k => if k = 0 ∨ k = 1 ∨ k = 28 ∨ k = 29 then .int 0 else .null)))) 60 60000
  refine b_Q_init_0 hX _ _ _ _ _ (i_aload rfl <| i_obj <| ?_)
  refine q_grp (c := 95) hA rfl (by decide) ⟨rfl, by decide⟩ ⟨by decide, by decide⟩ fun q1 a1 b1 => ?_
  refine q_grp (c := 2280) hA rfl (by decide) ⟨rfl, by decide⟩ ⟨by decide, by decide⟩ fun q2 a2 b2 => ?_
  refine q_grp (c := 2280) hA rfl (by decide) ⟨rfl, by decide⟩ ⟨by decide, by decide⟩ fun q3 a3 b3 => ?_
  refine q_grp (c := 2280) hA rfl (by decide) ⟨rfl, by decide⟩ ⟨by decide, by decide⟩ fun q4 a4 b4 => ?_
  refine q_grp (c := 5) hA rfl (by decide) ⟨rfl, by decide⟩ ⟨by decide, by decide⟩ fun q5 a5 b5 => ?_
  refine q_grp (c := 5) hA rfl (by decide) ⟨rfl, by decide⟩ ⟨by decide, by decide⟩ fun q6 a6 b6 => ?_
  refine q_grp (c := 5) hA rfl (by decide) ⟨rfl, by decide⟩ ⟨by decide, by decide⟩ fun q7 a7 b7 => ?_
  refine q_grp (c := 5) hA rfl (by decide) ⟨rfl, by decide⟩ ⟨by decide, by decide⟩ fun q8 a8 b8 => ?_
  refine q_grp (c := 25) hA rfl (by decide) ⟨rfl, by decide⟩ ⟨by decide, by decide⟩ fun q9 a9 b9 => ?_
  refine q_grp (c := 25) hA rfl (by decide) ⟨rfl, by decide⟩ ⟨by decide, by decide⟩ fun q10 a10 b10 => ?_
  refine q_grp (c := 5) hA rfl (by decide) ⟨rfl, by decide⟩ ⟨by decide, by decide⟩ fun q11 a11 b11 => ?_
  refine q_grp (c := 5) hA rfl (by decide) ⟨rfl, by decide⟩ ⟨by decide, by decide⟩ fun q12 a12 b12 => ?_
  refine q_grp (c := 25) hA rfl (by decide) ⟨rfl, by decide⟩ ⟨by decide, by decide⟩ fun q13 a13 b13 => ?_
  refine q_grp (c := 25) hA rfl (by decide) ⟨rfl, by decide⟩ ⟨by decide, by decide⟩ fun q14 a14 b14 => ?_
  refine q_grp (c := 25) hA rfl (by decide) ⟨rfl, by decide⟩ ⟨by decide, by decide⟩ fun q15 a15 b15 => ?_
  refine q_grp (c := 25) hA rfl (by decide) ⟨rfl, by decide⟩ ⟨by decide, by decide⟩ fun q16 a16 b16 => ?_
  refine q_grp (c := 25) hA rfl (by decide) ⟨rfl, by decide⟩ ⟨by decide, by decide⟩ fun q17 a17 b17 => ?_
  refine q_grp (c := 25) hA rfl (by decide) ⟨rfl, by decide⟩ ⟨by decide, by decide⟩ fun q18 a18 b18 => ?_
  refine q_grp (c := 25) hA rfl (by decide) ⟨rfl, by decide⟩ ⟨by decide, by decide⟩ fun q19 a19 b19 => ?_
  refine q_grp (c := 65) hA rfl (by decide) ⟨rfl, by decide⟩ ⟨by decide, by decide⟩ fun q20 a20 b20 => ?_
  refine q_grp (c := 65) hA rfl (by decide) ⟨rfl, by decide⟩ ⟨by decide, by decide⟩ fun q21 a21 b21 => ?_
  refine q_grp (c := 65) hA rfl (by decide) ⟨rfl, by decide⟩ ⟨by decide, by decide⟩ fun q22 a22 b22 => ?_
  refine q_grp (c := 65) hA rfl (by decide) ⟨rfl, by decide⟩ ⟨by decide, by decide⟩ fun q23 a23 b23 => ?_
  refine q_grp (c := 65) hA rfl (by decide) ⟨rfl, by decide⟩ ⟨by decide, by decide⟩ fun q24 a24 b24 => ?_
  refine q_grp (c := 65) hA rfl (by decide) ⟨rfl, by decide⟩ ⟨by decide, by decide⟩ fun q25 a25 b25 => ?_
  refine q_grp (c := 325) hA rfl (by decide) ⟨rfl, by decide⟩ ⟨by decide, by decide⟩ fun q26 a26 b26 => ?_
  refine i_aload rfl <| i_push <| q_putI hA (by decide) ?_
  refine q_grp (c := 4) hA rfl (by decide) ⟨rfl, by decide⟩ ⟨by decide, by decide⟩ fun q27 a27 b27 => ?_
  refine q_grp (c := 4) hA rfl (by decide) ⟨rfl, by decide⟩ ⟨by decide, by decide⟩ fun q28 a28 b28 => ?_
  refine i_aload rfl <| i_iload rfl <| i_push <| i_bin <| i_if ?_ ?_
  · intro hx
    refine b_Q_init_240 hX _ _ _ _ _ (i_push <| i_end ?_)
    refine b_Q_init_241 hX _ _ _ _ _ (q_putI hA (by decide) <| i_aload rfl <| i_aload rfl <| i_getf (c_cell (k := 0) hA (by decide) rfl) rfl <| i_push <| i_binz (by decide) <| q_putI hA (by decide) <| i_ret ?_)
    have hnx : nOf x = 5 := if_pos hx
    rw [hnx]
    have hm := q_made (N := 5) (F := F) (A := A) (cs := fun _ => (.inl (4, qobj (bq (A 0) [q1, q2, q3, q4, q5, q6, q7, q8, q9, q10, q11, q12, q13, q14, q15, q16, q17, q18, q19, q20, q21, q22, q23, q24, q25, q26, q27, q28]) 5 s00))) (B := bq (A 0) [q1, q2, q3, q4, q5, q6, q7, q8, q9, q10, q11, q12, q13, q14, q15, q16, q17, q18, q19, q20, q21, q22, q23, q24, q25, q26, q27, q28]) (l := [(q28, .inr (.inl (0, 4, fun _ => 0))), (q27, .inr (.inl (0, 4, fun _ => 0))), (q26, .inr (.inl (0, 325, fun _ => 0))), (q25, .inr (.inl (0, 65, fun _ => 0))), (q24, .inr (.inl (0, 65, fun _ => 0))), (q23, .inr (.inl (0, 65, fun _ => 0))), (q22, .inr (.inl (0, 65, fun _ => 0))), (q21, .inr (.inl (0, 65, fun _ => 0))), (q20, .inr (.inl (0, 65, fun _ => 0))), (q19, .inr (.inl (0, 25, fun _ => 0))), (q18, .inr (.inl (0, 25, fun _ => 0))), (q17, .inr (.inl (0, 25, fun _ => 0))), (q16, .inr (.inl (0, 25, fun _ => 0))), (q15, .inr (.inl (1, 25, fun _ => 0))), (q14, .inr (.inl (0, 25, fun _ => 0))), (q13, .inr (.inl (1, 25, fun _ => 0))), (q12, .inr (.inl (0, 5, fun _ => 0))), (q11, .inr (.inl (1, 5, fun _ => 0))), (q10, .inr (.inl (0, 25, fun _ => 0))), (q9, .inr (.inl (0, 25, fun _ => 0))), (q8, .inr (.inl (0, 5, fun _ => 0))), (q7, .inr (.inl (0, 5, fun _ => 0))), (q6, .inr (.inl (0, 5, fun _ => 0))), (q5, .inr (.inl (0, 5, fun _ => 0))), (q4, .inr (.inl (0, 2280, fun _ => 0))), (q3, .inr (.inl (0, 2280, fun _ => 0))), (q2, .inr (.inl (0, 2280, fun _ => 0))), (q1, .inr (.inl (0, 95, fun _ => 0)))]) hA rfl ⟨b28, b27, b26, b25, b24, b23, b22, b21, b20, b19, b18, b17, b16, b15, b14, b13, b12, b11, b10, b9, b8, b7, b6, b5, b4, b3, b2, b1, trivial⟩ ?_ rfl ?_ rfl
    · exact ⟨rfl, bq (A 0) [q1, q2, q3, q4, q5, q6, q7, q8, q9, q10, q11, q12, q13, q14, q15, q16, q17, q18, q19, q20, q21, q22, q23, q24, q25, q26, q27, q28], hm.1, hm.2.1, rfl, hm.2.2⟩
    · intro i q hi
      rcases i with _ | _ | _ | _ | _ | _ | _ | _ | _ | _ | _ | _ | _ | _ | _ | _ | _ | _ | _ | _ | _ | _ | _ | _ | _ | _ | _ | _ | i
      · cases hi; exact a28
      · cases hi; exact a27
      · cases hi; exact a26
      · cases hi; exact a25
      · cases hi; exact a24
      · cases hi; exact a23
      · cases hi; exact a22
      · cases hi; exact a21
      · cases hi; exact a20
      · cases hi; exact a19
      · cases hi; exact a18
      · cases hi; exact a17
      · cases hi; exact a16
      · cases hi; exact a15
      · cases hi; exact a14
      · cases hi; exact a13
      · cases hi; exact a12
      · cases hi; exact a11
      · cases hi; exact a10
      · cases hi; exact a9
      · cases hi; exact a8
      · cases hi; exact a7
      · cases hi; exact a6
      · cases hi; exact a5
      · cases hi; exact a4
      · cases hi; exact a3
      · cases hi; exact a2
      · cases hi; exact a1
      · simp at hi
    · intro j hj hj0
      rcases j with _ | _ | _ | _ | _ | _ | _ | _ | _ | _ | _ | _ | _ | _ | _ | _ | _ | _ | _ | _ | _ | _ | _ | _ | _ | _ | _ | _ | _ | _ | _ | _ | j
      · exact absurd rfl hj0
      · exact absurd hj (by decide)
      · rfl
      · rfl
      · rfl
      · rfl
      · rfl
      · rfl
      · rfl
      · rfl
      · rfl
      · rfl
      · rfl
      · rfl
      · rfl
      · rfl
      · rfl
      · rfl
      · rfl
      · rfl
      · rfl
      · rfl
      · rfl
      · rfl
      · rfl
      · rfl
      · rfl
      · rfl
      · exact absurd hj (by decide)
      · exact absurd hj (by decide)
      · rfl
      · rfl
      · have := us_c hj
        omega
  · intro hx
    refine b_Q_init_236 hX _ _ _ _ _ (i_push <| i_end ?_)
    refine b_Q_init_241 hX _ _ _ _ _ (q_putI hA (by decide) <| i_aload rfl <| i_aload rfl <| i_getf (c_cell (k := 0) hA (by decide) rfl) rfl <| i_push <| i_binz (by decide) <| q_putI hA (by decide) <| i_ret ?_)
    have hnx : nOf x = 3 := if_neg (fun q => hx q)
    rw [hnx]
    have hm := q_made (N := 3) (F := F) (A := A) (cs := fun _ => (.inl (4, qobj (bq (A 0) [q1, q2, q3, q4, q5, q6, q7, q8, q9, q10, q11, q12, q13, q14, q15, q16, q17, q18, q19, q20, q21, q22, q23, q24, q25, q26, q27, q28]) 3 s00))) (B := bq (A 0) [q1, q2, q3, q4, q5, q6, q7, q8, q9, q10, q11, q12, q13, q14, q15, q16, q17, q18, q19, q20, q21, q22, q23, q24, q25, q26, q27, q28]) (l := [(q28, .inr (.inl (0, 4, fun _ => 0))), (q27, .inr (.inl (0, 4, fun _ => 0))), (q26, .inr (.inl (0, 325, fun _ => 0))), (q25, .inr (.inl (0, 65, fun _ => 0))), (q24, .inr (.inl (0, 65, fun _ => 0))), (q23, .inr (.inl (0, 65, fun _ => 0))), (q22, .inr (.inl (0, 65, fun _ => 0))), (q21, .inr (.inl (0, 65, fun _ => 0))), (q20, .inr (.inl (0, 65, fun _ => 0))), (q19, .inr (.inl (0, 25, fun _ => 0))), (q18, .inr (.inl (0, 25, fun _ => 0))), (q17, .inr (.inl (0, 25, fun _ => 0))), (q16, .inr (.inl (0, 25, fun _ => 0))), (q15, .inr (.inl (1, 25, fun _ => 0))), (q14, .inr (.inl (0, 25, fun _ => 0))), (q13, .inr (.inl (1, 25, fun _ => 0))), (q12, .inr (.inl (0, 5, fun _ => 0))), (q11, .inr (.inl (1, 5, fun _ => 0))), (q10, .inr (.inl (0, 25, fun _ => 0))), (q9, .inr (.inl (0, 25, fun _ => 0))), (q8, .inr (.inl (0, 5, fun _ => 0))), (q7, .inr (.inl (0, 5, fun _ => 0))), (q6, .inr (.inl (0, 5, fun _ => 0))), (q5, .inr (.inl (0, 5, fun _ => 0))), (q4, .inr (.inl (0, 2280, fun _ => 0))), (q3, .inr (.inl (0, 2280, fun _ => 0))), (q2, .inr (.inl (0, 2280, fun _ => 0))), (q1, .inr (.inl (0, 95, fun _ => 0)))]) hA rfl ⟨b28, b27, b26, b25, b24, b23, b22, b21, b20, b19, b18, b17, b16, b15, b14, b13, b12, b11, b10, b9, b8, b7, b6, b5, b4, b3, b2, b1, trivial⟩ ?_ rfl ?_ rfl
    · exact ⟨rfl, bq (A 0) [q1, q2, q3, q4, q5, q6, q7, q8, q9, q10, q11, q12, q13, q14, q15, q16, q17, q18, q19, q20, q21, q22, q23, q24, q25, q26, q27, q28], hm.1, hm.2.1, rfl, hm.2.2⟩
    · intro i q hi
      rcases i with _ | _ | _ | _ | _ | _ | _ | _ | _ | _ | _ | _ | _ | _ | _ | _ | _ | _ | _ | _ | _ | _ | _ | _ | _ | _ | _ | _ | i
      · cases hi; exact a28
      · cases hi; exact a27
      · cases hi; exact a26
      · cases hi; exact a25
      · cases hi; exact a24
      · cases hi; exact a23
      · cases hi; exact a22
      · cases hi; exact a21
      · cases hi; exact a20
      · cases hi; exact a19
      · cases hi; exact a18
      · cases hi; exact a17
      · cases hi; exact a16
      · cases hi; exact a15
      · cases hi; exact a14
      · cases hi; exact a13
      · cases hi; exact a12
      · cases hi; exact a11
      · cases hi; exact a10
      · cases hi; exact a9
      · cases hi; exact a8
      · cases hi; exact a7
      · cases hi; exact a6
      · cases hi; exact a5
      · cases hi; exact a4
      · cases hi; exact a3
      · cases hi; exact a2
      · cases hi; exact a1
      · simp at hi
    · intro j hj hj0
      rcases j with _ | _ | _ | _ | _ | _ | _ | _ | _ | _ | _ | _ | _ | _ | _ | _ | _ | _ | _ | _ | _ | _ | _ | _ | _ | _ | _ | _ | _ | _ | _ | _ | j
      · exact absurd rfl hj0
      · exact absurd hj (by decide)
      · rfl
      · rfl
      · rfl
      · rfl
      · rfl
      · rfl
      · rfl
      · rfl
      · rfl
      · rfl
      · rfl
      · rfl
      · rfl
      · rfl
      · rfl
      · rfl
      · rfl
      · rfl
      · rfl
      · rfl
      · rfl
      · rfl
      · rfl
      · rfl
      · rfl
      · rfl
      · exact absurd hj (by decide)
      · exact absurd hj (by decide)
      · rfl
      · rfl
      · have := us_c hj
        omega
end INIT2
