section QROWS
abbrev QS : Type := (Nat → Nat → Int32) × Int32 × Int32
def qk (j : Nat) : Nat := if j = 12 ∨ j = 14 ∨ j = 16 then 1 else 0
def ql (j : Nat) : Nat := if j = 2 then 95 else if j < 6 then 2280 else if j < 10 then 5 else if j < 12 then 25 else if j < 14 then 5 else if j < 21 then 25 else if j < 27 then 65 else if j < 28 then 325 else 4
theorem ql_le (j : Nat) : ql j ≤ 2280 := by
  unfold ql
  repeat' split
  all_goals omega
def qobj (B : Nat → Nat) (N : Nat) (s : QS) : List Value := [.int (nI N), .int (nI (N / 2)), .ref (B 2), .ref (B 3), .ref (B 4), .ref (B 5), .ref (B 6), .ref (B 7), .ref (B 8), .ref (B 9), .ref (B 10), .ref (B 11), .ref (B 12), .ref (B 13), .ref (B 14), .ref (B 15), .ref (B 16), .ref (B 17), .ref (B 18), .ref (B 19), .ref (B 20), .ref (B 21), .ref (B 22), .ref (B 23), .ref (B 24), .ref (B 25), .ref (B 26), .ref (B 27), .int s.2.1, .int s.2.2, .ref (B 30), .ref (B 31)]
def qc (B : Nat → Nat) (N : Nat) (s : QS) : Nat → PC := fun j => if j = 0 then .inl (4, qobj B N s) else .inr (.inl (qk j, ql j, s.1 j))
def us (j : Nat) : Bool := Nat.beq j 0 || (Nat.ble 2 j && Nat.ble j 27) || Nat.beq j 30 || Nat.beq j 31
def QI (B : Nat → Nat) : Prop := ∀ j k, us j = true → us k = true → B j = B k → j = k
def isQ (B : Nat → Nat) (a : Nat) : Prop := ∃ j, us j = true ∧ a = B j
noncomputable def hQ (f : HF) (B : Nat → Nat) (N : Nat) (s : QS) : HF := fun a => @dite (Option PC) (isQ B a) (Classical.propDecidable _) (fun h => some (qc B N s (Classical.choose h))) (fun _ => f a)
theorem hQ_at {f : HF} {B : Nat → Nat} {N : Nat} {s : QS} (hB : QI B) {j : Nat} (hj : us j = true) : hQ f B N s (B j) = some (qc B N s j) := by
  have h : isQ B (B j) := ⟨j, hj, rfl⟩
  have h2 := Classical.choose_spec h
  have h3 : Classical.choose h = j := (hB _ _ hj h2.1 h2.2).symm
  simp only [hQ, dif_pos h, h3]
theorem hQ_no {f : HF} {B : Nat → Nat} {N : Nat} {s : QS} {a : Nat} (h : ¬ isQ B a) : hQ f B N s a = f a := by simp only [hQ, dif_neg h]
theorem hQ_up {f : HF} {B : Nat → Nat} {N : Nat} {s s' : QS} (hB : QI B) {j : Nat} (hj : us j = true) (hs : ∀ k, k ≠ j → qc B N s' k = qc B N s k) : hup (hQ f B N s) (B j) (qc B N s' j) = hQ f B N s' := by
  funext a
  by_cases h : isQ B a
  · obtain ⟨k, hk, rfl⟩ := h
    rw [hQ_at hB hk]
    by_cases e : k = j
    · subst e
      rw [hup_s]
    · rw [hup_n (fun q => e (hB _ _ hk hj q)), hQ_at hB hk, hs k e]
  · have ha : a ≠ B j := fun q => h ⟨j, hj, q⟩
    rw [hup_n ha, hQ_no h, hQ_no h]
def qw (s : QS) (j i : Nat) (x : Int32) : QS := (va_up s.1 j (upd (s.1 j) i x), s.2)
theorem qw_a (s : QS) (j i : Nat) (x : Int32) (j' i' : Nat) : (qw s j i x).1 j' i' = if j' = j ∧ i' = i then x else s.1 j' i' := by
  show va_up s.1 j (upd (s.1 j) i x) j' i' = _
  by_cases h : j' = j
  · subst h
    by_cases h2 : i' = i
    · simp [va_up, upd, h2]
    · simp [va_up, upd, h2]
  · simp [va_up, h]
theorem qw_2 (s : QS) (j i : Nat) (x : Int32) : (qw s j i x).2 = s.2 := rfl
theorem nI_mul (a b : Nat) : nI a * nI b = nI (a * b) := (Int32.ofNat_mul a b).symm
theorem nn_1 : (1 : Int32) = nI 1 := rfl
theorem nn_5 : (5 : Int32) = nI 5 := rfl
theorem nn_6 : (6 : Int32) = nI 6 := rfl
theorem nn_24 : (24 : Int32) = nI 24 := rfl
theorem nn_64 : (64 : Int32) = nI 64 := rfl
theorem nn_320 : (320 : Int32) = nI 320 := rfl
theorem nn_1656 : (1656 : Int32) = nI 1656 := rfl
theorem nn_69 : (69 : Int32) = nI 69 := rfl
theorem nn_70 : (70 : Int32) = nI 70 := rfl
variable {l : Launch} {D : va_G} {cid : Nat → ClassId} {os : List OP} {t : KN} {lv : LV} {st r : List Value} {bc bs : Nat} {f : HF} {B : Nat → Nat} {N : Nat} {s : QS}
theorem qc_w {j c : Nat} {x : Int32} (hj : ¬ j = 0) : qc B N (qw s j c x) j = .inr (.inl (qk j, ql j, upd (s.1 j) c x)) := by
  simp only [qc, if_neg hj, qw, va_s]
theorem qc_x {j c : Nat} {x : Int32} : ∀ k, k ≠ j → qc B N (qw s j c x) k = qc B N s k := by
  intro k hk
  by_cases h0 : k = 0
  · subst h0
    rfl
  · simp only [qc, if_neg h0, qw, va_n hk]
theorem q_this (hB : QI B) : hQ f B N s (B 0) = some (.inl (4, qobj B N s)) := hQ_at hB rfl
theorem q_cell (hB : QI B) {j : Nat} (h0 : ¬ j = 0) (hj : us j = true) : hQ f B N s (B j) = some (.inr (.inl (qk j, ql j, s.1 j))) := (hQ_at hB hj).trans (congrArg some (if_neg h0))
theorem q_getf {j : Nat} {v : Value} (hB : QI B) (hv : (qobj B N s)[j]? = some v) (kk : seg os t lv (v :: r) (hQ f B N s) bc bs) : seg (o_getf 4 j :: os) t lv (.ref (B 0) :: r) (hQ f B N s) bc bs := i_getf (q_this hB) hv kk
def qj (j kd : Nat) : Bool := Nat.blt 0 j && us j && Nat.beq (qk j) kd
theorem qj_s {j kd : Nat} (h : qj j kd = true) : ¬ j = 0 ∧ us j = true ∧ qk j = kd := by
  simp only [qj, Bool.and_eq_true] at h
  have h1 : 0 < j := Nat.blt_eq.mp h.1.1
  exact ⟨by omega, h.1.2, Nat.eq_of_beq_eq_true h.2⟩
theorem q_ald {kd j c : Nat} {i : Int32} (hB : QI B) (hi : i = nI c) (hc : c < ql j) (kk : seg os t lv (.int (s.1 j c) :: r) (hQ f B N s) bc bs) (hj : qj j kd = true := by rfl) : seg (o_ald kd :: os) t lv (.int i :: .ref (B j) :: r) (hQ f B N s) bc bs := by
  obtain ⟨h0, h1, h2⟩ := qj_s hj
  have hq := ql_le j
  have h3 := q_cell (f := f) (N := N) (s := s) hB h0 h1
  rw [h2] at h3
  exact i_ald h3 ⟨hi, hc, by omega⟩ kk
theorem q_ast {j c : Nat} {i x : Int32} (hB : QI B) (hi : i = nI c) (hc : c < ql j) (kk : seg os t lv r (hQ f B N (qw s j c x)) bc bs) (hj : qj j 0 = true := by rfl) : seg (o_ast :: os) t lv (.int x :: .int i :: .ref (B j) :: r) (hQ f B N s) bc bs := by
  obtain ⟨h0, h1, h2⟩ := qj_s hj
  have hq := ql_le j
  have h3 := q_cell (f := f) (N := N) (s := s) hB h0 h1
  have h4 : hup (hQ f B N s) (B j) (.inr (.inl (qk j, ql j, upd (s.1 j) c x))) = hQ f B N (qw s j c x) := by
    rw [← qc_w (B := B) (N := N) h0]
    exact hQ_up hB h1 qc_x
  rw [h2] at h3 h4
  refine i_ast h3 ⟨hi, hc, by omega⟩ ?_
  rw [h4]
  exact kk
theorem q_zst {j c : Nat} {i x : Int32} (hB : QI B) (hi : i = nI c) (hc : c < ql j) (kk : seg os t lv r (hQ f B N (qw s j c x)) bc bs) (hj : qj j 1 = true := by rfl) (hx : x = 0 ∨ x = 1 := by first | exact Or.inl rfl | exact Or.inr rfl | exact bI_01 _ | assumption) : seg (o_zst :: os) t lv (.int x :: .int i :: .ref (B j) :: r) (hQ f B N s) bc bs := by
  obtain ⟨h0, h1, h2⟩ := qj_s hj
  have hq := ql_le j
  have h3 := q_cell (f := f) (N := N) (s := s) hB h0 h1
  have h4 : hup (hQ f B N s) (B j) (.inr (.inl (qk j, ql j, upd (s.1 j) c x))) = hQ f B N (qw s j c x) := by
    rw [← qc_w (B := B) (N := N) h0]
    exact hQ_up hB h1 qc_x
  rw [h2] at h3 h4
  refine i_zst h3 ⟨hi, hc, by omega⟩ ?_ hx
  rw [h4]
  exact kk
theorem qc_o {s' : QS} (h : s'.1 = s.1) : ∀ k, k ≠ 0 → qc B N s' k = qc B N s k := by
  intro k hk
  simp only [qc, if_neg hk, h]
theorem q_put28 {x : Int32} (hB : QI B) (kk : seg os t lv r (hQ f B N (s.1, x, s.2.2)) bc bs) : seg (o_put okI 4 28 :: os) t lv (.int x :: .ref (B 0) :: r) (hQ f B N s) bc bs := by
  have h4 : hup (hQ f B N s) (B 0) (.inl (4, (qobj B N s).set 28 (.int x))) = hQ f B N (s.1, x, s.2.2) := by
    exact hQ_up (s' := (s.1, x, s.2.2)) hB rfl (qc_o rfl)
  refine i_putI (q_this hB) rfl ?_
  rw [h4]
  exact kk
theorem q_put29 {x : Int32} (hB : QI B) (kk : seg os t lv r (hQ f B N (s.1, s.2.1, x)) bc bs) : seg (o_put okI 4 29 :: os) t lv (.int x :: .ref (B 0) :: r) (hQ f B N s) bc bs := by
  have h4 : hup (hQ f B N s) (B 0) (.inl (4, (qobj B N s).set 29 (.int x))) = hQ f B N (s.1, s.2.1, x) := by
    exact hQ_up (s' := (s.1, s.2.1, x)) hB rfl (qc_o rfl)
  refine i_putI (q_this hB) rfl ?_
  rw [h4]
  exact kk
end QROWS
