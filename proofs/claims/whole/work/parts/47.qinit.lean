section INIT
variable {l : Launch} {D : va_G} {cid : Nat → ClassId} {F : HF} {A : Nat → Nat} {N : Nat} {cs : Nat → PC}
def hl (F : HF) : List (Nat × PC) → HF
  | [] => F
  | q :: l => hup (hl F l) q.1 q.2
def fr (F : HF) : List (Nat × PC) → Prop
  | [] => True
  | q :: l => hl F l q.1 = none ∧ fr F l
theorem hl_at : ∀ {l : List (Nat × PC)} {i : Nat} {q : Nat × PC}, fr F l → l[i]? = some q → hl F l q.1 = some q.2
  | [], i, q, _, h => by simp at h
  | p :: l, 0, q, hf, h => by
    cases h
    exact hup_s _ _ _
  | p :: l, i + 1, q, hf, h => by
    have h1 := hl_at (l := l) (i := i) hf.2 h
    have hne : q.1 ≠ p.1 := fun e => by
      rw [e, hf.1] at h1
      cases h1
    exact (hup_n hne).trans h1
theorem hl_none : ∀ {l : List (Nat × PC)} {a : Nat}, hl F l a = none → F a = none
  | [], a, h => h
  | p :: l, a, h => by
    by_cases e : a = p.1
    · rw [hl, e, hup_s] at h
      cases h
    · rw [hl, hup_n e] at h
      exact hl_none h
theorem fr_none : ∀ {l : List (Nat × PC)} {i : Nat} {q : Nat × PC}, fr F l → l[i]? = some q → F q.1 = none
  | [], i, q, _, h => by simp at h
  | p :: l, 0, q, hf, h => by
    cases h
    exact hl_none hf.1
  | p :: l, i + 1, q, hf, h => fr_none (l := l) (i := i) hf.2 h
theorem fr_inj : ∀ {l : List (Nat × PC)} {i j : Nat} {q q' : Nat × PC}, fr F l → l[i]? = some q → l[j]? = some q' → q.1 = q'.1 → i = j
  | [], i, j, q, q', _, h, _, _ => by simp at h
  | p :: l, 0, 0, q, q', _, _, _, _ => rfl
  | p :: l, 0, j + 1, q, q', hf, h, h', e => by
    cases h
    have h1 := hl_at (l := l) (i := j) hf.2 h'
    rw [← e, hf.1] at h1
    cases h1
  | p :: l, i + 1, 0, q, q', hf, h, h', e => by
    cases h'
    have h1 := hl_at (l := l) (i := i) hf.2 h
    rw [e, hf.1] at h1
    cases h1
  | p :: l, i + 1, j + 1, q, q', hf, h, h', e => congrArg (· + 1) (fr_inj (l := l) (i := i) (j := j) hf.2 h h' e)
theorem hl_out : ∀ {l : List (Nat × PC)} {a : Nat}, (∀ (i : Nat) (q : Nat × PC), l[i]? = some q → a ≠ q.1) → hl F l a = F a
  | [], a, _ => rfl
  | p :: l, a, h => by
    rw [hl, hup_n (h 0 p rfl)]
    exact hl_out (fun i q hq => h (i + 1) q hq)
def pos (j : Nat) : Nat := if j ≤ 27 then j - 2 else j - 4
def s00 : QS := (fun _ _ => 0, 0, -1)
theorem us_c {j : Nat} (h : us j = true) : j = 0 ∨ (2 ≤ j ∧ j ≤ 27) ∨ j = 30 ∨ j = 31 := by
  simp only [us, Bool.or_eq_true, Bool.and_eq_true] at h
  rcases h with ((h | h) | h) | h
  · exact Or.inl (Nat.eq_of_beq_eq_true h)
  · exact Or.inr (Or.inl ⟨Nat.le_of_ble_eq_true h.1, Nat.le_of_ble_eq_true h.2⟩)
  · exact Or.inr (Or.inr (Or.inl (Nat.eq_of_beq_eq_true h)))
  · exact Or.inr (Or.inr (Or.inr (Nat.eq_of_beq_eq_true h)))
theorem q_made {B : Nat → Nat} {l : List (Nat × PC)} (hA : AI 1 A) (hlen : l.length = 28) (hfr : fr F l) (hp : ∀ (i : Nat) (q : Nat × PC), l[i]? = some q → ¬ isA 1 A q.1) (h0 : B 0 = A 0) (hj : ∀ j, us j = true → ¬ j = 0 → l[27 - pos j]? = some (B j, qc B N s00 j)) (hc : cs 0 = .inl (4, qobj B N s00)) :
    hC 1 A (hl F l) cs = hQ F B N s00 ∧ QI B ∧ ∀ j, us j = true → ¬ j = 0 → F (B j) = none := by
  have hq : QI B := by
    intro j k h1 h2 e
    by_cases j0 : j = 0
    · by_cases k0 : k = 0
      · omega
      · rw [j0, h0] at e
        exact absurd ⟨0, by omega, e.symm⟩ (hp _ _ (hj k h2 k0))
    · by_cases k0 : k = 0
      · rw [k0, h0] at e
        exact absurd ⟨0, by omega, e⟩ (hp _ _ (hj j h1 j0))
      · have h3 := fr_inj hfr (hj j h1 j0) (hj k h2 k0) e
        have h4 := us_c h1
        have h5 := us_c h2
        unfold pos at h3
        split at h3 <;> split at h3 <;> omega
  refine ⟨?_, hq, fun j h1 h2 => fr_none hfr (hj j h1 h2)⟩
  funext a
  by_cases ha : isQ B a
  · obtain ⟨j, h1, rfl⟩ := ha
    rw [hQ_at hq h1]
    by_cases j0 : j = 0
    · subst j0
      rw [h0, hC_at hA (by omega), hc]
      rfl
    · rw [hC_no (hp _ _ (hj j h1 j0))]
      exact hl_at hfr (hj j h1 j0)
  · rw [hQ_no ha]
    have hn : ¬ isA 1 A a := fun ⟨k, hk, e⟩ => ha ⟨0, rfl, by rw [h0, e, show k = 0 by omega]⟩
    rw [hC_no hn]
    refine hl_out (fun i q hiq e => ha ?_)
    have hi : i < 28 := by
      rw [← hlen]
      exact (List.getElem?_eq_some_iff.mp hiq).1
    have hx : ∃ j, us j = true ∧ ¬ j = 0 ∧ 27 - pos j = i := by
      rcases Nat.lt_or_ge i 2 with h9 | h9
      · rcases i with _ | _ | i
        · exact ⟨31, rfl, by omega, rfl⟩
        · exact ⟨30, rfl, by omega, rfl⟩
        · omega
      · refine ⟨29 - i, ?_, by omega, ?_⟩
        · simp only [us, Bool.or_eq_true, Bool.and_eq_true]
          exact Or.inl (Or.inl (Or.inr ⟨Nat.ble_eq.mpr (by omega), Nat.ble_eq.mpr (by omega)⟩))
        · unfold pos
          rw [if_pos (by omega)]
          omega
    obtain ⟨j, h1, h2, h3⟩ := hx
    have h4 := hj j h1 h2
    rw [h3, hiq] at h4
    cases h4
    exact ⟨j, h1, e⟩
def bq (p : Nat) (q : List Nat) : Nat → Nat := fun j => if j = 0 then p else q.getD (pos j) 0
def nOf (x : Int32) : Nat := if ¬ x &&& 1 = 0 then 5 else 3
theorem nOf_c (x : Int32) : nOf x = 3 ∨ nOf x = 5 := by
  unfold nOf
  split
  · exact Or.inr rfl
  · exact Or.inl rfl
end INIT
