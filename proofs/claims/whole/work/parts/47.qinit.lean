section INIT
variable {l : Launch} {D : va_G} {cid : Nat → ClassId} {F : HF} {A : Nat → Nat} {N : Nat} {cs : Nat → PC}
def hl (F : HF) : List (Nat × PC) → HF
  | [] => F
  | q :: l => hup (hl F l) q.1 q.2
def fr (F : HF) : List (Nat × PC) → Prop
  | [] => True
  | q :: l => hl F l q.1 = none ∧ fr F l
theorem hl_at : ∀ {l : List (Nat × PC)} {i : Nat} {q : Nat × PC}, fr F l → l[i]? = some q → hl F l q.1 = some q.2
  | [], i, q, _, h => by simp at h
  | p :: l, 0, q, hf, h => by
    cases h
    exact hup_s _ _ _
  | p :: l, i + 1, q, hf, h => by
    have h1 := hl_at (l := l) (i := i) hf.2 h
    have hne : q.1 ≠ p.1 := fun e => by
      rw [e, hf.1] at h1
      cases h1
    exact (hup_n hne).trans h1
theorem hl_none : ∀ {l : List (Nat × PC)} {a : Nat}, hl F l a = none → F a = none
  | [], a, h => h
  | p :: l, a, h => by
    by_cases e : a = p.1
    · rw [hl, e, hup_s] at h
      cases h
    · rw [hl, hup_n e] at h
      exact hl_none h
theorem fr_none : ∀ {l : List (Nat × PC)} {i : Nat} {q : Nat × PC}, fr F l → l[i]? = some q → F q.1 = none
  | [], i, q, _, h => by simp at h
  | p :: l, 0, q, hf, h => by
    cases h
    exact hl_none hf.1
  | p :: l, i + 1, q, hf, h => fr_none (l := l) (i := i) hf.2 h
theorem fr_inj : ∀ {l : List (Nat × PC)} {i j : Nat} {q q' : Nat × PC}, fr F l → l[i]? = some q → l[j]? = some q' → q.1 = q'.1 → i = j
  | [], i, j, q, q', _, h, _, _ => by simp at h
  | p :: l, 0, 0, q, q', _, _, _, _ => rfl
  | p :: l, 0, j + 1, q, q', hf, h, h', e => by
    cases h
    have h1 := hl_at (l := l) (i := j) hf.2 h'
    rw [← e, hf.1] at h1
    cases h1
  | p :: l, i + 1, 0, q, q', hf, h, h', e => by
    cases h'
    have h1 := hl_at (l := l) (i := i) hf.2 h
    rw [e, hf.1] at h1
    cases h1
  | p :: l, i + 1, j + 1, q, q', hf, h, h', e => congrArg (· + 1) (fr_inj (l := l) (i := i) (j := j) hf.2 h h' e)
theorem hl_out : ∀ {l : List (Nat × PC)} {a : Nat}, (∀ (i : Nat) (q : Nat × PC), l[i]? = some q → a ≠ q.1) → hl F l a = F a
  | [], a, _ => rfl
  | p :: l, a, h => by
    rw [hl, hup_n (h 0 p rfl)]
    exact hl_out (fun i q hq => h (i + 1) q hq)
def pos (j : Nat) : Nat := if j ≤ 27 then j - 2 else j - 4
def s00 : QS := (fun _ _ => 0, 0, -1)
theorem us_c {j : Nat} (h : us j = true) : j = 0 ∨ (2 ≤ j ∧ j ≤ 27) ∨ j = 30 ∨ j = 31 := by
  simp only [us, Bool.or_eq_true, Bool.and_eq_true] at h
  rcases h with ((h | h) | h) | h
  · exact Or.inl (Nat.eq_of_beq_eq_true h)
  · exact Or.inr (Or.inl ⟨Nat.le_of_ble_eq_true h.1, Nat.le_of_ble_eq_true h.2⟩)
  · exact Or.inr (Or.inr (Or.inl (Nat.eq_of_beq_eq_true h)))
  · exact Or.inr (Or.inr (Or.inr (Nat.eq_of_beq_eq_true h)))
theorem q_made {B : Nat → Nat} {l : List (Nat × PC)} (hA : AI 1 A) (hlen : l.length = 28) (hfr : fr F l) (hp : ∀ (i : Nat) (q : Nat × PC), l[i]? = some q → ¬ isA 1 A q.1) (h0 : B 0 = A 0) (hj : ∀ j, us j = true → ¬ j = 0 → l[27 - pos j]? = some (B j, qc B N s00 j)) (hc : cs 0 = .inl (4, qobj B N s00)) :
    hC 1 A (hl F l) cs = hQ F B N s00 ∧ QI B ∧ ∀ j, us j = true → ¬ j = 0 → F (B j) = none := by
  have hq : QI B := by
    intro j k h1 h2 e
    by_cases j0 : j = 0
    · by_cases k0 : k = 0
      · omega
      · rw [j0, h0] at e
        exact absurd ⟨0, by omega, e.symm⟩ (hp _ _ (hj k h2 k0))
    · by_cases k0 : k = 0
      · rw [k0, h0] at e
        exact absurd ⟨0, by omega, e⟩ (hp _ _ (hj j h1 j0))
      · have h3 := fr_inj hfr (hj j h1 j0) (hj k h2 k0) e
        have h4 := us_c h1
        have h5 := us_c h2
        unfold pos at h3
        split at h3 <;> split at h3 <;> omega
  refine ⟨?_, hq, fun j h1 h2 => fr_none hfr (hj j h1 h2)⟩
  funext a
  by_cases ha : isQ B a
  · obtain ⟨j, h1, rfl⟩ := ha
    rw [hQ_at hq h1]
    by_cases j0 : j = 0
    · subst j0
      rw [h0, hC_at hA (by omega), hc]
      rfl
    · rw [hC_no (hp _ _ (hj j h1 j0))]
      exact hl_at hfr (hj j h1 j0)
  · rw [hQ_no ha]
    have hn : ¬ isA 1 A a := fun ⟨k, hk, e⟩ => ha ⟨0, rfl, by rw [h0, e, show k = 0 by omega]⟩
    rw [hC_no hn]
    refine hl_out (fun i q hiq e => ha ?_)
    have hi : i < 28 := by
      rw [← hlen]
      exact (List.getElem?_eq_some_iff.mp hiq).1
    have hx : ∃ j, us j = true ∧ ¬ j = 0 ∧ 27 - pos j = i := by
      rcases Nat.lt_or_ge i 2 with h9 | h9
      · rcases i with _ | _ | i
        · exact ⟨31, rfl, by omega, rfl⟩
        · exact ⟨30, rfl, by omega, rfl⟩
        · omega
      · refine ⟨29 - i, ?_, by omega, ?_⟩
        · simp only [us, Bool.or_eq_true, Bool.and_eq_true]
          exact Or.inl (Or.inl (Or.inr ⟨Nat.ble_eq.mpr (by omega), Nat.ble_eq.mpr (by omega)⟩))
        · unfold pos
          rw [if_pos (by omega)]
          omega
    obtain ⟨j, h1, h2, h3⟩ := hx
    have h4 := hj j h1 h2
    rw [h3, hiq] at h4
    cases h4
    exact ⟨j, h1, e⟩
def bq (p : Nat) (q : List Nat) : Nat → Nat := fun j => if j = 0 then p else q.getD (pos j) 0
def nOf (x : Int32) : Nat := if ¬ x &&& 1 = 0 then 5 else 3
theorem nOf_c (x : Int32) : nOf x = 3 ∨ nOf x = 5 := by
  unfold nOf
  split
  · exact Or.inr rfl
  · exact Or.inl rfl
theorem sp_Q_init0 {x : Int32} (hA : AI 1 A) (h0 : cs 0 = .inl (4, df_Q)) : CS l D cid m_Q_init [.ref (A 0), .int x] (hC 1 A F cs) (fun v F' => v = none ∧ ∃ B, F' = hQ F B (nOf x) s00 ∧ QI B ∧ B 0 = A 0 ∧ ∀ j, us j = true → ¬ j = 0 → F (B j) = none) := by
  intro X hX
  have h : 0 < 1 := Nat.zero_lt_one
  refine b_Q_init_0 hX _ _ _ _ _ (i_aload rfl <| i_obj <| i_aload rfl <| i_push <| i_newI (show (95 : Int32) = nI 95 ∧ 95 ≤ 100000 from ⟨rfl, by decide⟩) ⟨by decide, by decide⟩ fun q1 hq1 => ?_)
  obtain ⟨a1, b1⟩ := hC_none hq1
  rw [hC_new hq1]
  refine (c_putR hA h h0 rfl <| i_aload rfl <| i_push <| i_newI (show (2280 : Int32) = nI 2280 ∧ 2280 ≤ 100000 from ⟨rfl, by decide⟩) ⟨by decide, by decide⟩ fun q2 hq2 => ?_)
  obtain ⟨a2, b2⟩ := hC_none hq2
  rw [hC_new hq2]
  refine (c_putR hA h (va_s _ _ _) rfl <| i_aload rfl <| i_push <| i_newI (show (2280 : Int32) = nI 2280 ∧ 2280 ≤ 100000 from ⟨rfl, by decide⟩) ⟨by decide, by decide⟩ fun q3 hq3 => ?_)
  obtain ⟨a3, b3⟩ := hC_none hq3
  rw [hC_new hq3]
  refine (c_putR hA h (va_s _ _ _) rfl <| i_aload rfl <| i_push <| i_newI (show (2280 : Int32) = nI 2280 ∧ 2280 ≤ 100000 from ⟨rfl, by decide⟩) ⟨by decide, by decide⟩ fun q4 hq4 => ?_)
  obtain ⟨a4, b4⟩ := hC_none hq4
  rw [hC_new hq4]
  refine (c_putR hA h (va_s _ _ _) rfl <| i_aload rfl <| i_push <| i_newI (show (5 : Int32) = nI 5 ∧ 5 ≤ 100000 from ⟨rfl, by decide⟩) ⟨by decide, by decide⟩ fun q5 hq5 => ?_)
  obtain ⟨a5, b5⟩ := hC_none hq5
  rw [hC_new hq5]
  refine (c_putR hA h (va_s _ _ _) rfl <| i_aload rfl <| i_push <| i_newI (show (5 : Int32) = nI 5 ∧ 5 ≤ 100000 from ⟨rfl, by decide⟩) ⟨by decide, by decide⟩ fun q6 hq6 => ?_)
  obtain ⟨a6, b6⟩ := hC_none hq6
  rw [hC_new hq6]
  refine (c_putR hA h (va_s _ _ _) rfl <| i_aload rfl <| i_push <| i_newI (show (5 : Int32) = nI 5 ∧ 5 ≤ 100000 from ⟨rfl, by decide⟩) ⟨by decide, by decide⟩ fun q7 hq7 => ?_)
  obtain ⟨a7, b7⟩ := hC_none hq7
  rw [hC_new hq7]
  refine (c_putR hA h (va_s _ _ _) rfl <| i_aload rfl <| i_push <| i_newI (show (5 : Int32) = nI 5 ∧ 5 ≤ 100000 from ⟨rfl, by decide⟩) ⟨by decide, by decide⟩ fun q8 hq8 => ?_)
  obtain ⟨a8, b8⟩ := hC_none hq8
  rw [hC_new hq8]
  refine (c_putR hA h (va_s _ _ _) rfl <| i_aload rfl <| i_push <| i_newI (show (25 : Int32) = nI 25 ∧ 25 ≤ 100000 from ⟨rfl, by decide⟩) ⟨by decide, by decide⟩ fun q9 hq9 => ?_)
  obtain ⟨a9, b9⟩ := hC_none hq9
  rw [hC_new hq9]
  refine (c_putR hA h (va_s _ _ _) rfl <| i_aload rfl <| i_push <| i_newI (show (25 : Int32) = nI 25 ∧ 25 ≤ 100000 from ⟨rfl, by decide⟩) ⟨by decide, by decide⟩ fun q10 hq10 => ?_)
  obtain ⟨a10, b10⟩ := hC_none hq10
  rw [hC_new hq10]
  refine (c_putR hA h (va_s _ _ _) rfl <| i_aload rfl <| i_push <| i_newI (show (5 : Int32) = nI 5 ∧ 5 ≤ 100000 from ⟨rfl, by decide⟩) ⟨by decide, by decide⟩ fun q11 hq11 => ?_)
  obtain ⟨a11, b11⟩ := hC_none hq11
  rw [hC_new hq11]
  refine (c_putR hA h (va_s _ _ _) rfl <| i_aload rfl <| i_push <| i_newI (show (5 : Int32) = nI 5 ∧ 5 ≤ 100000 from ⟨rfl, by decide⟩) ⟨by decide, by decide⟩ fun q12 hq12 => ?_)
  obtain ⟨a12, b12⟩ := hC_none hq12
  rw [hC_new hq12]
  refine (c_putR hA h (va_s _ _ _) rfl <| i_aload rfl <| i_push <| i_newI (show (25 : Int32) = nI 25 ∧ 25 ≤ 100000 from ⟨rfl, by decide⟩) ⟨by decide, by decide⟩ fun q13 hq13 => ?_)
  obtain ⟨a13, b13⟩ := hC_none hq13
  rw [hC_new hq13]
  refine (c_putR hA h (va_s _ _ _) rfl <| i_aload rfl <| i_push <| i_newI (show (25 : Int32) = nI 25 ∧ 25 ≤ 100000 from ⟨rfl, by decide⟩) ⟨by decide, by decide⟩ fun q14 hq14 => ?_)
  obtain ⟨a14, b14⟩ := hC_none hq14
  rw [hC_new hq14]
  refine (c_putR hA h (va_s _ _ _) rfl <| i_aload rfl <| i_push <| i_newI (show (25 : Int32) = nI 25 ∧ 25 ≤ 100000 from ⟨rfl, by decide⟩) ⟨by decide, by decide⟩ fun q15 hq15 => ?_)
  obtain ⟨a15, b15⟩ := hC_none hq15
  rw [hC_new hq15]
  refine (c_putR hA h (va_s _ _ _) rfl <| i_aload rfl <| i_push <| i_newI (show (25 : Int32) = nI 25 ∧ 25 ≤ 100000 from ⟨rfl, by decide⟩) ⟨by decide, by decide⟩ fun q16 hq16 => ?_)
  obtain ⟨a16, b16⟩ := hC_none hq16
  rw [hC_new hq16]
  refine (c_putR hA h (va_s _ _ _) rfl <| i_aload rfl <| i_push <| i_newI (show (25 : Int32) = nI 25 ∧ 25 ≤ 100000 from ⟨rfl, by decide⟩) ⟨by decide, by decide⟩ fun q17 hq17 => ?_)
  obtain ⟨a17, b17⟩ := hC_none hq17
  rw [hC_new hq17]
  refine (c_putR hA h (va_s _ _ _) rfl <| i_aload rfl <| i_push <| i_newI (show (25 : Int32) = nI 25 ∧ 25 ≤ 100000 from ⟨rfl, by decide⟩) ⟨by decide, by decide⟩ fun q18 hq18 => ?_)
  obtain ⟨a18, b18⟩ := hC_none hq18
  rw [hC_new hq18]
  refine (c_putR hA h (va_s _ _ _) rfl <| i_aload rfl <| i_push <| i_newI (show (25 : Int32) = nI 25 ∧ 25 ≤ 100000 from ⟨rfl, by decide⟩) ⟨by decide, by decide⟩ fun q19 hq19 => ?_)
  obtain ⟨a19, b19⟩ := hC_none hq19
  rw [hC_new hq19]
  refine (c_putR hA h (va_s _ _ _) rfl <| i_aload rfl <| i_push <| i_newI (show (65 : Int32) = nI 65 ∧ 65 ≤ 100000 from ⟨rfl, by decide⟩) ⟨by decide, by decide⟩ fun q20 hq20 => ?_)
  obtain ⟨a20, b20⟩ := hC_none hq20
  rw [hC_new hq20]
  refine (c_putR hA h (va_s _ _ _) rfl <| i_aload rfl <| i_push <| i_newI (show (65 : Int32) = nI 65 ∧ 65 ≤ 100000 from ⟨rfl, by decide⟩) ⟨by decide, by decide⟩ fun q21 hq21 => ?_)
  obtain ⟨a21, b21⟩ := hC_none hq21
  rw [hC_new hq21]
  refine (c_putR hA h (va_s _ _ _) rfl <| i_aload rfl <| i_push <| i_newI (show (65 : Int32) = nI 65 ∧ 65 ≤ 100000 from ⟨rfl, by decide⟩) ⟨by decide, by decide⟩ fun q22 hq22 => ?_)
  obtain ⟨a22, b22⟩ := hC_none hq22
  rw [hC_new hq22]
  refine (c_putR hA h (va_s _ _ _) rfl <| i_aload rfl <| i_push <| i_newI (show (65 : Int32) = nI 65 ∧ 65 ≤ 100000 from ⟨rfl, by decide⟩) ⟨by decide, by decide⟩ fun q23 hq23 => ?_)
  obtain ⟨a23, b23⟩ := hC_none hq23
  rw [hC_new hq23]
  refine (c_putR hA h (va_s _ _ _) rfl <| i_aload rfl <| i_push <| i_newI (show (65 : Int32) = nI 65 ∧ 65 ≤ 100000 from ⟨rfl, by decide⟩) ⟨by decide, by decide⟩ fun q24 hq24 => ?_)
  obtain ⟨a24, b24⟩ := hC_none hq24
  rw [hC_new hq24]
  refine (c_putR hA h (va_s _ _ _) rfl <| i_aload rfl <| i_push <| i_newI (show (65 : Int32) = nI 65 ∧ 65 ≤ 100000 from ⟨rfl, by decide⟩) ⟨by decide, by decide⟩ fun q25 hq25 => ?_)
  obtain ⟨a25, b25⟩ := hC_none hq25
  rw [hC_new hq25]
  refine (c_putR hA h (va_s _ _ _) rfl <| i_aload rfl <| i_push <| i_newI (show (325 : Int32) = nI 325 ∧ 325 ≤ 100000 from ⟨rfl, by decide⟩) ⟨by decide, by decide⟩ fun q26 hq26 => ?_)
  obtain ⟨a26, b26⟩ := hC_none hq26
  rw [hC_new hq26]
  refine (c_putR hA h (va_s _ _ _) rfl <| i_aload rfl <| i_push <| c_putI hA h (va_s _ _ _) rfl <| i_aload rfl <| i_push <| i_newI (show (4 : Int32) = nI 4 ∧ 4 ≤ 100000 from ⟨rfl, by decide⟩) ⟨by decide, by decide⟩ fun q27 hq27 => ?_)
  obtain ⟨a27, b27⟩ := hC_none hq27
  rw [hC_new hq27]
  refine (c_putR hA h (va_s _ _ _) rfl <| i_aload rfl <| i_push <| i_newI (show (4 : Int32) = nI 4 ∧ 4 ≤ 100000 from ⟨rfl, by decide⟩) ⟨by decide, by decide⟩ fun q28 hq28 => ?_)
  obtain ⟨a28, b28⟩ := hC_none hq28
  rw [hC_new hq28]
  refine (c_putR hA h (va_s _ _ _) rfl <| i_aload rfl <| i_iload rfl <| i_push <| i_bin <| i_if ?_ ?_)
  · intro hx
    refine b_Q_init_240 hX _ _ _ _ _ (i_push <| i_end ?_)
    refine b_Q_init_241 hX _ _ _ _ _ (c_putI hA h (va_s _ _ _) rfl <| i_aload rfl <| i_aload rfl <| i_getf (c_cell hA h (va_s _ _ _)) rfl <| i_push <| i_binz (by decide) <| c_putI hA h (va_s _ _ _) rfl <| i_ret ?_)
    have hnx : nOf x = 5 := if_pos hx
    rw [hnx]
    simp only [va_va]
    have hm := q_made (N := 5) (F := F) (A := A) (cs := va_up cs 0 (.inl (4, qobj (bq (A 0) [q1, q2, q3, q4, q5, q6, q7, q8, q9, q10, q11, q12, q13, q14, q15, q16, q17, q18, q19, q20, q21, q22, q23, q24, q25, q26, q27, q28]) 5 s00))) (B := bq (A 0) [q1, q2, q3, q4, q5, q6, q7, q8, q9, q10, q11, q12, q13, q14, q15, q16, q17, q18, q19, q20, q21, q22, q23, q24, q25, q26, q27, q28]) (l := [(q28, .inr (.inl (0, 4, fun _ => 0))), (q27, .inr (.inl (0, 4, fun _ => 0))), (q26, .inr (.inl (0, 325, fun _ => 0))), (q25, .inr (.inl (0, 65, fun _ => 0))), (q24, .inr (.inl (0, 65, fun _ => 0))), (q23, .inr (.inl (0, 65, fun _ => 0))), (q22, .inr (.inl (0, 65, fun _ => 0))), (q21, .inr (.inl (0, 65, fun _ => 0))), (q20, .inr (.inl (0, 65, fun _ => 0))), (q19, .inr (.inl (0, 25, fun _ => 0))), (q18, .inr (.inl (0, 25, fun _ => 0))), (q17, .inr (.inl (0, 25, fun _ => 0))), (q16, .inr (.inl (0, 25, fun _ => 0))), (q15, .inr (.inl (1, 25, fun _ => 0))), (q14, .inr (.inl (0, 25, fun _ => 0))), (q13, .inr (.inl (1, 25, fun _ => 0))), (q12, .inr (.inl (0, 5, fun _ => 0))), (q11, .inr (.inl (1, 5, fun _ => 0))), (q10, .inr (.inl (0, 25, fun _ => 0))), (q9, .inr (.inl (0, 25, fun _ => 0))), (q8, .inr (.inl (0, 5, fun _ => 0))), (q7, .inr (.inl (0, 5, fun _ => 0))), (q6, .inr (.inl (0, 5, fun _ => 0))), (q5, .inr (.inl (0, 5, fun _ => 0))), (q4, .inr (.inl (0, 2280, fun _ => 0))), (q3, .inr (.inl (0, 2280, fun _ => 0))), (q2, .inr (.inl (0, 2280, fun _ => 0))), (q1, .inr (.inl (0, 95, fun _ => 0)))]) hA rfl ⟨b28, b27, b26, b25, b24, b23, b22, b21, b20, b19, b18, b17, b16, b15, b14, b13, b12, b11, b10, b9, b8, b7, b6, b5, b4, b3, b2, b1, trivial⟩ ?_ rfl ?_ (va_s _ _ _)
    · exact ⟨rfl, bq (A 0) [q1, q2, q3, q4, q5, q6, q7, q8, q9, q10, q11, q12, q13, q14, q15, q16, q17, q18, q19, q20, q21, q22, q23, q24, q25, q26, q27, q28], hm.1, hm.2.1, rfl, hm.2.2⟩
    · intro i q hi
      rcases i with _ | _ | _ | _ | _ | _ | _ | _ | _ | _ | _ | _ | _ | _ | _ | _ | _ | _ | _ | _ | _ | _ | _ | _ | _ | _ | _ | _ | i
      · cases hi; exact a28
      · cases hi; exact a27
      · cases hi; exact a26
      · cases hi; exact a25
      · cases hi; exact a24
      · cases hi; exact a23
      · cases hi; exact a22
      · cases hi; exact a21
      · cases hi; exact a20
      · cases hi; exact a19
      · cases hi; exact a18
      · cases hi; exact a17
      · cases hi; exact a16
      · cases hi; exact a15
      · cases hi; exact a14
      · cases hi; exact a13
      · cases hi; exact a12
      · cases hi; exact a11
      · cases hi; exact a10
      · cases hi; exact a9
      · cases hi; exact a8
      · cases hi; exact a7
      · cases hi; exact a6
      · cases hi; exact a5
      · cases hi; exact a4
      · cases hi; exact a3
      · cases hi; exact a2
      · cases hi; exact a1
      · simp at hi
    · intro j hj hj0
      rcases j with _ | _ | _ | _ | _ | _ | _ | _ | _ | _ | _ | _ | _ | _ | _ | _ | _ | _ | _ | _ | _ | _ | _ | _ | _ | _ | _ | _ | _ | _ | _ | _ | j
      · exact absurd rfl hj0
      · exact absurd hj (by decide)
      · rfl
      · rfl
      · rfl
      · rfl
      · rfl
      · rfl
      · rfl
      · rfl
      · rfl
      · rfl
      · rfl
      · rfl
      · rfl
      · rfl
      · rfl
      · rfl
      · rfl
      · rfl
      · rfl
      · rfl
      · rfl
      · rfl
      · rfl
      · rfl
      · rfl
      · rfl
      · exact absurd hj (by decide)
      · exact absurd hj (by decide)
      · rfl
      · rfl
      · have := us_c hj
        omega
  · intro hx
    refine b_Q_init_236 hX _ _ _ _ _ (i_push <| i_end ?_)
    refine b_Q_init_241 hX _ _ _ _ _ (c_putI hA h (va_s _ _ _) rfl <| i_aload rfl <| i_aload rfl <| i_getf (c_cell hA h (va_s _ _ _)) rfl <| i_push <| i_binz (by decide) <| c_putI hA h (va_s _ _ _) rfl <| i_ret ?_)
    have hnx : nOf x = 3 := if_neg (fun q => hx q)
    rw [hnx]
    simp only [va_va]
    have hm := q_made (N := 3) (F := F) (A := A) (cs := va_up cs 0 (.inl (4, qobj (bq (A 0) [q1, q2, q3, q4, q5, q6, q7, q8, q9, q10, q11, q12, q13, q14, q15, q16, q17, q18, q19, q20, q21, q22, q23, q24, q25, q26, q27, q28]) 3 s00))) (B := bq (A 0) [q1, q2, q3, q4, q5, q6, q7, q8, q9, q10, q11, q12, q13, q14, q15, q16, q17, q18, q19, q20, q21, q22, q23, q24, q25, q26, q27, q28]) (l := [(q28, .inr (.inl (0, 4, fun _ => 0))), (q27, .inr (.inl (0, 4, fun _ => 0))), (q26, .inr (.inl (0, 325, fun _ => 0))), (q25, .inr (.inl (0, 65, fun _ => 0))), (q24, .inr (.inl (0, 65, fun _ => 0))), (q23, .inr (.inl (0, 65, fun _ => 0))), (q22, .inr (.inl (0, 65, fun _ => 0))), (q21, .inr (.inl (0, 65, fun _ => 0))), (q20, .inr (.inl (0, 65, fun _ => 0))), (q19, .inr (.inl (0, 25, fun _ => 0))), (q18, .inr (.inl (0, 25, fun _ => 0))), (q17, .inr (.inl (0, 25, fun _ => 0))), (q16, .inr (.inl (0, 25, fun _ => 0))), (q15, .inr (.inl (1, 25, fun _ => 0))), (q14, .inr (.inl (0, 25, fun _ => 0))), (q13, .inr (.inl (1, 25, fun _ => 0))), (q12, .inr (.inl (0, 5, fun _ => 0))), (q11, .inr (.inl (1, 5, fun _ => 0))), (q10, .inr (.inl (0, 25, fun _ => 0))), (q9, .inr (.inl (0, 25, fun _ => 0))), (q8, .inr (.inl (0, 5, fun _ => 0))), (q7, .inr (.inl (0, 5, fun _ => 0))), (q6, .inr (.inl (0, 5, fun _ => 0))), (q5, .inr (.inl (0, 5, fun _ => 0))), (q4, .inr (.inl (0, 2280, fun _ => 0))), (q3, .inr (.inl (0, 2280, fun _ => 0))), (q2, .inr (.inl (0, 2280, fun _ => 0))), (q1, .inr (.inl (0, 95, fun _ => 0)))]) hA rfl ⟨b28, b27, b26, b25, b24, b23, b22, b21, b20, b19, b18, b17, b16, b15, b14, b13, b12, b11, b10, b9, b8, b7, b6, b5, b4, b3, b2, b1, trivial⟩ ?_ rfl ?_ (va_s _ _ _)
    · exact ⟨rfl, bq (A 0) [q1, q2, q3, q4, q5, q6, q7, q8, q9, q10, q11, q12, q13, q14, q15, q16, q17, q18, q19, q20, q21, q22, q23, q24, q25, q26, q27, q28], hm.1, hm.2.1, rfl, hm.2.2⟩
    · intro i q hi
      rcases i with _ | _ | _ | _ | _ | _ | _ | _ | _ | _ | _ | _ | _ | _ | _ | _ | _ | _ | _ | _ | _ | _ | _ | _ | _ | _ | _ | _ | i
      · cases hi; exact a28
      · cases hi; exact a27
      · cases hi; exact a26
      · cases hi; exact a25
      · cases hi; exact a24
      · cases hi; exact a23
      · cases hi; exact a22
      · cases hi; exact a21
      · cases hi; exact a20
      · cases hi; exact a19
      · cases hi; exact a18
      · cases hi; exact a17
      · cases hi; exact a16
      · cases hi; exact a15
      · cases hi; exact a14
      · cases hi; exact a13
      · cases hi; exact a12
      · cases hi; exact a11
      · cases hi; exact a10
      · cases hi; exact a9
      · cases hi; exact a8
      · cases hi; exact a7
      · cases hi; exact a6
      · cases hi; exact a5
      · cases hi; exact a4
      · cases hi; exact a3
      · cases hi; exact a2
      · cases hi; exact a1
      · simp at hi
    · intro j hj hj0
      rcases j with _ | _ | _ | _ | _ | _ | _ | _ | _ | _ | _ | _ | _ | _ | _ | _ | _ | _ | _ | _ | _ | _ | _ | _ | _ | _ | _ | _ | _ | _ | _ | _ | j
      · exact absurd rfl hj0
      · exact absurd hj (by decide)
      · rfl
      · rfl
      · rfl
      · rfl
      · rfl
      · rfl
      · rfl
      · rfl
      · rfl
      · rfl
      · rfl
      · rfl
      · rfl
      · rfl
      · rfl
      · rfl
      · rfl
      · rfl
      · rfl
      · rfl
      · rfl
      · rfl
      · rfl
      · rfl
      · rfl
      · rfl
      · exact absurd hj (by decide)
      · exact absurd hj (by decide)
      · rfl
      · rfl
      · have := us_c hj
        omega
end INIT
