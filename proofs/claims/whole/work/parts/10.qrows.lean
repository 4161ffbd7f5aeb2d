section QROWS
abbrev QS : Type := (Nat → Nat → Int32) × Int32 × Int32
def qk (j : Nat) : Nat := if j = 12 ∨ j = 14 ∨ j = 16 then 1 else 0
def ql (j : Nat) : Nat := if j = 2 then 95 else if j < 6 then 2280 else if j < 10 then 5 else if j < 12 then 25 else if j < 14 then 5 else if j < 21 then 25 else if j < 27 then 65 else if j < 28 then 325 else 4
theorem ql_le (j : Nat) : ql j ≤ 2280 := by
  unfold ql
  repeat' split
  all_goals omega
def qobj (B : Nat → Nat) (N : Nat) (s : QS) : List Value := [.int (nI N), .int (nI (N / 2)), .ref (B 2), .ref (B 3), .ref (B 4), .ref (B 5), .ref (B 6), .ref (B 7), .ref (B 8), .ref (B 9), .ref (B 10), .ref (B 11), .ref (B 12), .ref (B 13), .ref (B 14), .ref (B 15), .ref (B 16), .ref (B 17), .ref (B 18), .ref (B 19), .ref (B 20), .ref (B 21), .ref (B 22), .ref (B 23), .ref (B 24), .ref (B 25), .ref (B 26), .ref (B 27), .int s.2.1, .int s.2.2, .ref (B 30), .ref (B 31)]
def qc (B : Nat → Nat) (N : Nat) (s : QS) : Nat → PC := fun j => if j = 0 then .inl (4, qobj B N s) else .inr (.inl (qk j, ql j, s.1 j))
noncomputable def hQ (f : HF) (B : Nat → Nat) (N : Nat) (s : QS) : HF := hC 32 B f (qc B N s)
def qw (s : QS) (j i : Nat) (x : Int32) : QS := (va_up s.1 j (upd (s.1 j) i x), s.2)
theorem qw_a (s : QS) (j i : Nat) (x : Int32) (j' i' : Nat) : (qw s j i x).1 j' i' = if j' = j ∧ i' = i then x else s.1 j' i' := by
  show va_up s.1 j (upd (s.1 j) i x) j' i' = _
  by_cases h : j' = j
  · subst h
    by_cases h2 : i' = i
    · simp [va_up, upd, h2]
    · simp [va_up, upd, h2]
  · simp [va_up, h]
theorem qw_2 (s : QS) (j i : Nat) (x : Int32) : (qw s j i x).2 = s.2 := rfl
theorem nI_mul (a b : Nat) : nI a * nI b = nI (a * b) := (Int32.ofNat_mul a b).symm
theorem nn_1 : (1 : Int32) = nI 1 := rfl
theorem nn_5 : (5 : Int32) = nI 5 := rfl
theorem nn_6 : (6 : Int32) = nI 6 := rfl
theorem nn_24 : (24 : Int32) = nI 24 := rfl
theorem nn_64 : (64 : Int32) = nI 64 := rfl
theorem nn_320 : (320 : Int32) = nI 320 := rfl
theorem nn_1656 : (1656 : Int32) = nI 1656 := rfl
theorem nn_69 : (69 : Int32) = nI 69 := rfl
theorem nn_70 : (70 : Int32) = nI 70 := rfl
variable {l : Launch} {D : va_G} {cid : Nat → ClassId} {os : List OP} {t : KN} {lv : LV} {st r : List Value} {bc bs : Nat} {f : HF} {B : Nat → Nat} {N : Nat} {s : QS}
theorem qc_w {j c : Nat} {x : Int32} (hj : ¬ j = 0) : va_up (qc B N s) j (.inr (.inl (qk j, ql j, upd (s.1 j) c x))) = qc B N (qw s j c x) := by
  funext k
  by_cases hk : k = j
  · subst hk
    rw [va_s]
    simp only [qc, if_neg hj, qw, va_s]
  · rw [va_n hk]
    by_cases h0 : k = 0
    · subst h0
      rfl
    · simp only [qc, if_neg h0, qw, va_n hk]
theorem q_this (hB : AI 32 B) : hQ f B N s (B 0) = some (.inl (4, qobj B N s)) := c_cell hB (by decide) rfl
theorem q_cell (hB : AI 32 B) {j : Nat} (h0 : ¬ j = 0) (hj : j < 32) : hQ f B N s (B j) = some (.inr (.inl (qk j, ql j, s.1 j))) := c_cell hB hj (if_neg h0)
theorem q_getf {j : Nat} {v : Value} (hB : AI 32 B) (hv : (qobj B N s)[j]? = some v) (kk : seg os t lv (v :: r) (hQ f B N s) bc bs) : seg (o_getf 4 j :: os) t lv (.ref (B 0) :: r) (hQ f B N s) bc bs := i_getf (q_this hB) hv kk
def qj (j kd : Nat) : Bool := Nat.blt 0 j && Nat.blt j 32 && Nat.beq (qk j) kd
theorem qj_s {j kd : Nat} (h : qj j kd = true) : ¬ j = 0 ∧ j < 32 ∧ qk j = kd := by
  simp only [qj, Bool.and_eq_true] at h
  have h1 : 0 < j := Nat.blt_eq.mp h.1.1
  exact ⟨by omega, Nat.blt_eq.mp h.1.2, Nat.eq_of_beq_eq_true h.2⟩
theorem q_ald {kd j c : Nat} {i : Int32} (hB : AI 32 B) (hi : i = nI c) (hc : c < ql j) (kk : seg os t lv (.int (s.1 j c) :: r) (hQ f B N s) bc bs) (hj : qj j kd = true := by rfl) : seg (o_ald kd :: os) t lv (.int i :: .ref (B j) :: r) (hQ f B N s) bc bs := by
  obtain ⟨h0, h1, h2⟩ := qj_s hj
  have hq := ql_le j
  have h3 := q_cell (f := f) (N := N) (s := s) hB h0 h1
  rw [h2] at h3
  exact i_ald h3 ⟨hi, hc, by omega⟩ kk
theorem q_ast {j c : Nat} {i x : Int32} (hB : AI 32 B) (hi : i = nI c) (hc : c < ql j) (kk : seg os t lv r (hQ f B N (qw s j c x)) bc bs) (hj : qj j 0 = true := by rfl) : seg (o_ast :: os) t lv (.int x :: .int i :: .ref (B j) :: r) (hQ f B N s) bc bs := by
  obtain ⟨h0, h1, h2⟩ := qj_s hj
  have hq := ql_le j
  have h3 := q_cell (f := f) (N := N) (s := s) hB h0 h1
  have h4 : hup (hQ f B N s) (B j) (.inr (.inl (qk j, ql j, upd (s.1 j) c x))) = hQ f B N (qw s j c x) := by
    rw [hQ, hC_up hB h1, qc_w h0]
    rfl
  rw [h2] at h3 h4
  refine i_ast h3 ⟨hi, hc, by omega⟩ ?_
  rw [h4]
  exact kk
theorem q_zst {j c : Nat} {i x : Int32} (hB : AI 32 B) (hi : i = nI c) (hc : c < ql j) (kk : seg os t lv r (hQ f B N (qw s j c x)) bc bs) (hj : qj j 1 = true := by rfl) (hx : x = 0 ∨ x = 1 := by first | exact Or.inl rfl | exact Or.inr rfl | exact bI_01 _ | assumption) : seg (o_zst :: os) t lv (.int x :: .int i :: .ref (B j) :: r) (hQ f B N s) bc bs := by
  obtain ⟨h0, h1, h2⟩ := qj_s hj
  have hq := ql_le j
  have h3 := q_cell (f := f) (N := N) (s := s) hB h0 h1
  have h4 : hup (hQ f B N s) (B j) (.inr (.inl (qk j, ql j, upd (s.1 j) c x))) = hQ f B N (qw s j c x) := by
    rw [hQ, hC_up hB h1, qc_w h0]
    rfl
  rw [h2] at h3 h4
  refine i_zst h3 ⟨hi, hc, by omega⟩ ?_ hx
  rw [h4]
  exact kk
theorem qc_o {s' : QS} (h : s'.1 = s.1) : va_up (qc B N s) 0 (.inl (4, qobj B N s')) = qc B N s' := by
  funext k
  by_cases h0 : k = 0
  · subst h0
    rw [va_s]
    rfl
  · rw [va_n h0]
    simp only [qc, if_neg h0, h]
theorem q_put28 {x : Int32} (hB : AI 32 B) (kk : seg os t lv r (hQ f B N (s.1, x, s.2.2)) bc bs) : seg (o_put okI 4 28 :: os) t lv (.int x :: .ref (B 0) :: r) (hQ f B N s) bc bs := by
  have h4 : hup (hQ f B N s) (B 0) (.inl (4, (qobj B N s).set 28 (.int x))) = hQ f B N (s.1, x, s.2.2) := by
    rw [hQ, hC_up hB (by decide)]
    exact congrArg (hC 32 B f) (qc_o (s := s) (s' := (s.1, x, s.2.2)) rfl)
  refine i_putI (q_this hB) rfl ?_
  rw [h4]
  exact kk
theorem q_put29 {x : Int32} (hB : AI 32 B) (kk : seg os t lv r (hQ f B N (s.1, s.2.1, x)) bc bs) : seg (o_put okI 4 29 :: os) t lv (.int x :: .ref (B 0) :: r) (hQ f B N s) bc bs := by
  have h4 : hup (hQ f B N s) (B 0) (.inl (4, (qobj B N s).set 29 (.int x))) = hQ f B N (s.1, s.2.1, x) := by
    rw [hQ, hC_up hB (by decide)]
    exact congrArg (hC 32 B f) (qc_o (s := s) (s' := (s.1, s.2.1, x)) rfl)
  refine i_putI (q_this hB) rfl ?_
  rw [h4]
  exact kk
end QROWS
