section QSB
variable {l : Launch} {D : va_G} {cid : Nat → ClassId} {f : HF} {B : Nat → Nat} {N n i : Nat} {s s' : QS} {S : GS} {o : Option Msg} {M : Msg}
def nv (s : QS) (r x : Nat) : Int32 := mx (s.1 10 x) (s.1 27 (320 + (x - 5 * r)))
def lrn (s : QS) (r n : Nat) : QS := (fun j x => if (5 * r ≤ x ∧ x < 5 * r + n) ∧ j = 10 then nv s r x else if (5 * r ≤ x ∧ x < 5 * r + n) ∧ j = 14 then (if s.1 14 x = 0 ∨ s.1 15 x < nv s r x then 0 else 1) else if (5 * r ≤ x ∧ x < 5 * r + n) ∧ j = 16 then (if s.1 16 x = 0 ∨ s.1 17 x < nv s r x then 0 else 1) else s.1 j x, s.2)
theorem lrn_a (s : QS) (r n j x : Nat) : (lrn s r n).1 j x = if (5 * r ≤ x ∧ x < 5 * r + n) ∧ j = 10 then nv s r x else if (5 * r ≤ x ∧ x < 5 * r + n) ∧ j = 14 then (if s.1 14 x = 0 ∨ s.1 15 x < nv s r x then 0 else 1) else if (5 * r ≤ x ∧ x < 5 * r + n) ∧ j = 16 then (if s.1 16 x = 0 ∨ s.1 17 x < nv s r x then 0 else 1) else s.1 j x := rfl
theorem lrn_0 (s : QS) (r : Nat) : lrn s r 0 = s := by
  refine QS_ext (fun j x => ?_) rfl
  rw [lrn_a, if_neg (by omega), if_neg (by omega), if_neg (by omega)]
theorem lrn_n {r n j x : Nat} (h : ¬ (5 * r ≤ x ∧ x < 5 * r + n) ∨ (¬ j = 10 ∧ ¬ j = 14 ∧ ¬ j = 16)) : (lrn s r n).1 j x = s.1 j x := by
  rw [lrn_a, if_neg (by omega), if_neg (by omega), if_neg (by omega)]
theorem lrn_s (s : QS) (r t : Nat) : qw (qw (qw (lrn s r t) 10 (5 * r + t) (nv s r (5 * r + t))) 14 (5 * r + t) (if s.1 14 (5 * r + t) = 0 ∨ s.1 15 (5 * r + t) < nv s r (5 * r + t) then 0 else 1)) 16 (5 * r + t) (if s.1 16 (5 * r + t) = 0 ∨ s.1 17 (5 * r + t) < nv s r (5 * r + t) then 0 else 1) = lrn s r (t + 1) := by
  refine QS_ext (fun j x => ?_) rfl
  simp only [qw_a]
  by_cases hx : x = 5 * r + t
  · subst hx
    rw [lrn_n (n := t) (Or.inl (by omega)), lrn_a]
    have e1 : 5 * r ≤ 5 * r + t ∧ 5 * r + t < 5 * r + (t + 1) := by omega
    by_cases h10 : j = 10
    · subst h10; simp [e1]
    · by_cases h14 : j = 14
      · subst h14; simp [e1]
      · by_cases h16 : j = 16
        · subst h16; simp [e1]
        · simp [h10, h14, h16]
  · have e : (5 * r ≤ x ∧ x < 5 * r + (t + 1)) = (5 * r ≤ x ∧ x < 5 * r + t) := propext ⟨fun h => ⟨h.1, by omega⟩, fun h => ⟨h.1, by omega⟩⟩
    rw [if_neg (fun q => hx q.2), if_neg (fun q => hx q.2), if_neg (fun q => hx q.2), lrn_a, lrn_a]
    simp only [e]
theorem mx_le (x y : Int32) : (if y ≤ x then x else y) = mx x y := by
  unfold mx
  by_cases h : x < y
  · rw [if_pos h, if_neg (Int32.not_le.mpr h)]
  · rw [if_neg h, if_pos (Int32.not_lt.mp h)]
theorem sp_Q_learn {r : Nat} (hB : QI B) (hN : N ≤ 5) (hr : r < N) : CS l D cid m_Q_learn [.ref (B 0), .int (nI r)] (hQ f B N s) (fun w f' => w = none ∧ f' = hQ f B N (lrn s r N)) := by
  intro X hX
  have loop : ∀ t, t ≤ N → ∀ (x3 : Option Value) (bc bs : Nat), FR l D cid m_Q_learn X 2 [some (.ref (B 0)), some (.int (nI r)), some (.int (nI t)), x3] [] (hQ f B N (lrn s r t)) bc bs := by
    refine up_to ?_ ?_
    · intro x3 bc bs
      refine b_Q_learn_2 hX _ _ _ _ _ (i_iload rfl <| i_aload rfl <| q_getf hB rfl <| i_cmp_t (Int32.le_refl _) ?_)
      refine b_Q_learn_136 hX _ _ _ _ _ (i_ret ?_)
      exact ⟨rfl, rfl⟩
    · intro t ht ih x3 bc bs
      simp only [nI_succ] at ih
      have hc : (5 : Int32) * nI r + nI t = nI (5 * r + t) := by simp only [nn_5, nI_mul, nI_add]
      have o10 : (lrn s r t).1 10 (5 * r + t) = s.1 10 (5 * r + t) := lrn_n (Or.inl (by omega))
      have o14 : (lrn s r t).1 14 (5 * r + t) = s.1 14 (5 * r + t) := lrn_n (Or.inl (by omega))
      have o16 : (lrn s r t).1 16 (5 * r + t) = s.1 16 (5 * r + t) := lrn_n (Or.inl (by omega))
      have o15 : (lrn s r t).1 15 (5 * r + t) = s.1 15 (5 * r + t) := lrn_n (Or.inl (by omega))
      have o17 : (lrn s r t).1 17 (5 * r + t) = s.1 17 (5 * r + t) := lrn_n (Or.inl (by omega))
      have o27 : (lrn s r t).1 27 (320 + t) = s.1 27 (320 + t) := lrn_n (Or.inr (by omega))
      have env : nv s r (5 * r + t) = mx (s.1 10 (5 * r + t)) (s.1 27 (320 + t)) := by rw [nv, show 5 * r + t - 5 * r = t by omega]
      have h129 : ∀ (b : Int32) (bc bs : Nat), b = (if s.1 16 (5 * r + t) = 0 ∨ s.1 17 (5 * r + t) < nv s r (5 * r + t) then 0 else 1) → (b = 0 ∨ b = 1) → FR l D cid m_Q_learn X 129 [some (.ref (B 0)), some (.int (nI r)), some (.int (nI t)), some (.int (nI (5 * r + t)))] [.int b, .int (nI (5 * r + t)), .ref (B 16)] (hQ f B N (qw (qw (lrn s r t) 10 (5 * r + t) (nv s r (5 * r + t))) 14 (5 * r + t) (if s.1 14 (5 * r + t) = 0 ∨ s.1 15 (5 * r + t) < nv s r (5 * r + t) then 0 else 1))) bc bs := by
        intro b bc bs hb hb01
        refine b_Q_learn_129 hX _ _ _ _ _ (q_zst (c := 5 * r + t) hB (by first | rfl | simp only [nn_1, nn_5, nn_6, nn_24, nn_64, nn_69, nn_70, nn_320, nn_1656, nI_mul, nI_add]) (by show _ < 25; omega) <| i_iinc rfl <| i_end ?_)
        rw [hb, lrn_s]
        exact ih _ _ _
      have h94 : ∀ (b : Int32) (bc bs : Nat), b = (if s.1 14 (5 * r + t) = 0 ∨ s.1 15 (5 * r + t) < nv s r (5 * r + t) then 0 else 1) → (b = 0 ∨ b = 1) → FR l D cid m_Q_learn X 94 [some (.ref (B 0)), some (.int (nI r)), some (.int (nI t)), some (.int (nI (5 * r + t)))] [.int b, .int (nI (5 * r + t)), .ref (B 14)] (hQ f B N (qw (lrn s r t) 10 (5 * r + t) (nv s r (5 * r + t)))) bc bs := by
        intro b bc bs hb hb01
        have q16 : ∀ v w : Int32, (qw (qw (lrn s r t) 10 (5 * r + t) v) 14 (5 * r + t) w).1 16 (5 * r + t) = s.1 16 (5 * r + t) := fun v w => by rw [qw_a, if_neg (by omega), qw_a, if_neg (by omega), o16]
        have q17 : ∀ v w : Int32, (qw (qw (lrn s r t) 10 (5 * r + t) v) 14 (5 * r + t) w).1 17 (5 * r + t) = s.1 17 (5 * r + t) := fun v w => by rw [qw_a, if_neg (by omega), qw_a, if_neg (by omega), o17]
        have q10 : ∀ v w : Int32, (qw (qw (lrn s r t) 10 (5 * r + t) v) 14 (5 * r + t) w).1 10 (5 * r + t) = v := fun v w => by rw [qw_a, if_neg (by omega), qw_a, if_pos ⟨rfl, rfl⟩]
        refine b_Q_learn_94 hX _ _ _ _ _ (q_zst (c := 5 * r + t) hB (by first | rfl | simp only [nn_1, nn_5, nn_6, nn_24, nn_64, nn_69, nn_70, nn_320, nn_1656, nI_mul, nI_add]) (by show _ < 25; omega) <| i_aload rfl <| q_getf hB rfl <| i_iload rfl <| i_aload rfl <| q_getf hB rfl <| i_iload rfl <| q_ald (c := 5 * r + t) hB (by first | rfl | simp only [nn_1, nn_5, nn_6, nn_24, nn_64, nn_69, nn_70, nn_320, nn_1656, nI_mul, nI_add]) (by show _ < 25; omega) <| i_if ?_ ?_)
        · intro h
          rw [q16] at h
          refine b_Q_learn_128 hX _ _ _ _ _ (i_push <| i_end ?_)
          rw [hb]
          exact h129 0 _ _ (by rw [if_pos (Or.inl h)]) (Or.inl rfl)
        · intro h
          rw [q16] at h
          refine b_Q_learn_109 hX _ _ _ _ _ (i_aload rfl <| q_getf hB rfl <| i_iload rfl <| q_ald (c := 5 * r + t) hB (by first | rfl | simp only [nn_1, nn_5, nn_6, nn_24, nn_64, nn_69, nn_70, nn_320, nn_1656, nI_mul, nI_add]) (by show _ < 25; omega) <| i_aload rfl <| q_getf hB rfl <| i_iload rfl <| q_ald (c := 5 * r + t) hB (by first | rfl | simp only [nn_1, nn_5, nn_6, nn_24, nn_64, nn_69, nn_70, nn_320, nn_1656, nI_mul, nI_add]) (by show _ < 25; omega) <| i_cmp ?_ ?_)
          · intro h'
            rw [q17, q10] at h'
            refine b_Q_learn_128 hX _ _ _ _ _ (i_push <| i_end ?_)
            rw [hb]
            exact h129 0 _ _ (by rw [if_pos (Or.inr h')]) (Or.inl rfl)
          · intro h'
            rw [q17, q10] at h'
            refine b_Q_learn_124 hX _ _ _ _ _ (i_push <| i_end ?_)
            rw [hb]
            exact h129 1 _ _ (by rw [if_neg (fun z => z.elim h h')]) (Or.inr rfl)
      have h59 : ∀ (b : Int32) (bc bs : Nat), b = nv s r (5 * r + t) → FR l D cid m_Q_learn X 59 [some (.ref (B 0)), some (.int (nI r)), some (.int (nI t)), some (.int (nI (5 * r + t)))] [.int b, .int (nI (5 * r + t)), .ref (B 10)] (hQ f B N (lrn s r t)) bc bs := by
        intro b bc bs hb
        subst hb
        have q14 : ∀ v : Int32, (qw (lrn s r t) 10 (5 * r + t) v).1 14 (5 * r + t) = s.1 14 (5 * r + t) := fun v => by rw [qw_a, if_neg (by omega), o14]
        have q15 : ∀ v : Int32, (qw (lrn s r t) 10 (5 * r + t) v).1 15 (5 * r + t) = s.1 15 (5 * r + t) := fun v => by rw [qw_a, if_neg (by omega), o15]
        have q10 : ∀ v : Int32, (qw (lrn s r t) 10 (5 * r + t) v).1 10 (5 * r + t) = v := fun v => by rw [qw_a, if_pos ⟨rfl, rfl⟩]
        refine b_Q_learn_59 hX _ _ _ _ _ (q_ast (c := 5 * r + t) hB (by first | rfl | simp only [nn_1, nn_5, nn_6, nn_24, nn_64, nn_69, nn_70, nn_320, nn_1656, nI_mul, nI_add]) (by show _ < 25; omega) <| i_aload rfl <| q_getf hB rfl <| i_iload rfl <| i_aload rfl <| q_getf hB rfl <| i_iload rfl <| q_ald (c := 5 * r + t) hB (by first | rfl | simp only [nn_1, nn_5, nn_6, nn_24, nn_64, nn_69, nn_70, nn_320, nn_1656, nI_mul, nI_add]) (by show _ < 25; omega) <| i_if ?_ ?_)
        · intro h
          rw [q14] at h
          refine b_Q_learn_93 hX _ _ _ _ _ (i_push <| i_end ?_)
          exact h94 0 _ _ (by rw [if_pos (Or.inl h)]) (Or.inl rfl)
        · intro h
          rw [q14] at h
          refine b_Q_learn_74 hX _ _ _ _ _ (i_aload rfl <| q_getf hB rfl <| i_iload rfl <| q_ald (c := 5 * r + t) hB (by first | rfl | simp only [nn_1, nn_5, nn_6, nn_24, nn_64, nn_69, nn_70, nn_320, nn_1656, nI_mul, nI_add]) (by show _ < 25; omega) <| i_aload rfl <| q_getf hB rfl <| i_iload rfl <| q_ald (c := 5 * r + t) hB (by first | rfl | simp only [nn_1, nn_5, nn_6, nn_24, nn_64, nn_69, nn_70, nn_320, nn_1656, nI_mul, nI_add]) (by show _ < 25; omega) <| i_cmp ?_ ?_)
          · intro h'
            rw [q15, q10] at h'
            refine b_Q_learn_93 hX _ _ _ _ _ (i_push <| i_end ?_)
            exact h94 0 _ _ (by rw [if_pos (Or.inr h')]) (Or.inl rfl)
          · intro h'
            rw [q15, q10] at h'
            refine b_Q_learn_89 hX _ _ _ _ _ (i_push <| i_end ?_)
            exact h94 1 _ _ (by rw [if_neg (fun z => z.elim h h')]) (Or.inr rfl)
      refine b_Q_learn_2 hX _ _ _ _ _ (i_iload rfl <| i_aload rfl <| q_getf hB rfl <| i_cmp_f (nI_ge ht (by omega)) ?_)
      refine b_Q_learn_10 hX _ _ _ _ _ (i_push <| i_iload rfl <| i_bin <| i_iload rfl <| i_bin <| i_istore <| i_aload rfl <| q_getf hB rfl <| i_iload rfl <| i_aload rfl <| q_getf hB rfl <| i_push <| i_iload rfl <| i_bin <| q_ald (c := 320 + t) hB (by first | rfl | simp only [nn_1, nn_5, nn_6, nn_24, nn_64, nn_69, nn_70, nn_320, nn_1656, nI_mul, nI_add]) (by show _ < 325; omega) <| i_aload rfl <| q_getf hB rfl <| i_iload rfl <| q_ald (c := 5 * r + t) hB (by first | rfl | simp only [nn_1, nn_5, nn_6, nn_24, nn_64, nn_69, nn_70, nn_320, nn_1656, nI_mul, nI_add]) (by show _ < 25; omega) <| i_cmp ?_ ?_)
      · intro h
        rw [o27, o10] at h
        refine b_Q_learn_53 hX _ _ _ _ _ (i_aload rfl <| q_getf hB rfl <| i_iload rfl <| q_ald (c := 5 * r + t) hB (by first | rfl | simp only [nn_1, nn_5, nn_6, nn_24, nn_64, nn_69, nn_70, nn_320, nn_1656, nI_mul, nI_add]) (by show _ < 25; omega) <| i_end ?_)
        rw [o10, hc]
        exact h59 _ _ _ (by rw [env, ← mx_le, if_pos h])
      · intro h
        rw [o27, o10] at h
        refine b_Q_learn_40 hX _ _ _ _ _ (i_aload rfl <| q_getf hB rfl <| i_push <| i_iload rfl <| i_bin <| q_ald (c := 320 + t) hB (by first | rfl | simp only [nn_1, nn_5, nn_6, nn_24, nn_64, nn_69, nn_70, nn_320, nn_1656, nI_mul, nI_add]) (by show _ < 325; omega) <| i_end ?_)
        rw [o27, hc]
        exact h59 _ _ _ (by rw [env, ← mx_le, if_neg h])
  refine b_Q_learn_0 hX _ _ _ _ _ (i_push <| i_istore <| i_end ?_)
  have h := loop 0 (Nat.zero_le _)
  rw [lrn_0] at h
  exact h _ _ _
theorem rel_learn (hN : N ≤ 5) (hi : i < N) (h : Rel N s S (some M)) : Rel N (lrn s i N) (g_rep S i (r_raise (gR S i) (mX M))) (some M) := by
  obtain ⟨a1, a2, a3, a4, a5, a6, a7, a8, a9, a10, a11⟩ := h.2.2.2.1 i hi
  have hm := (msg_at h).2.2.2.2.2.1
  have sm : ∀ j x, ¬ j = 10 → ¬ j = 14 → ¬ j = 16 → (lrn s i N).1 j x = s.1 j x := fun j x b1 b2 b3 => lrn_n (Or.inr ⟨b1, b2, b3⟩)
  have hv : ∀ t, t < N → nv s i (5 * i + t) = rse (rX (gR S i)) (mX M) t := fun t ht => by
    rw [nv, a6 t ht, show 320 + (5 * i + t - 5 * i) = 5 * 64 + t by omega, hm t ht]
    rfl
  have hk : kepE (r_raise (gR S i) (mX M)) = drp (kepE (gR S i)) (rse (rX (gR S i)) (mX M)) := by
    unfold kepE
    show (if rS (gR S i) = 2 then _ else _) = _
    split <;> rfl
  refine h.rep hN hi rfl (fun j x hx => ?_) ⟨(sm 6 i (by decide) (by decide) (by decide)).trans a1, (sm 7 i (by decide) (by decide) (by decide)).trans a2, (sm 8 i (by decide) (by decide) (by decide)).trans a3, (sm 9 i (by decide) (by decide) (by decide)).trans a4, a5.mv (sm 2 i (by decide) (by decide) (by decide)) (fun j k h1 h2 h3 => sm j _ (by omega) (by omega) (by omega)), fun t ht => ?_, fun t ht => (sm 11 _ (by decide) (by decide) (by decide)).trans (a7 t ht), (sm 12 i (by decide) (by decide) (by decide)).trans a8, (sm 13 i (by decide) (by decide) (by decide)).trans a9, fun t ht => ?_, fun t ht => ?_⟩
  · unfold inR at hx
    exact lrn_n (by omega)
  · rw [lrn_a, if_pos (by omega), hv t ht]
    rfl
  · have b := a10 t ht
    show VoQ _ _ _ (drp (rO (gR S i)) (rse (rX (gR S i)) (mX M)) t)
    have e : (lrn s i N).1 14 (5 * i + t) = (if s.1 14 (5 * i + t) = 0 ∨ s.1 15 (5 * i + t) < rse (rX (gR S i)) (mX M) t then 0 else 1) := by
      rw [lrn_a, if_neg (by omega), if_pos (by omega), hv t ht]
    cases hk : rO (gR S i) t with
    | none =>
      rw [hk] at b
      rw [drp_n hk]
      have b' : s.1 14 (5 * i + t) = 0 := b
      show (lrn s i N).1 14 (5 * i + t) = 0
      rw [e, if_pos (Or.inl b')]
    | some m =>
      rw [hk] at b
      rw [drp_s hk]
      split
      · rename_i hlt
        show (lrn s i N).1 14 (5 * i + t) = 0
        rw [e, if_pos (Or.inr (by rw [b.2]; exact hlt))]
      · rename_i hlt
        refine ⟨?_, (sm 15 _ (by decide) (by decide) (by decide)).trans b.2⟩
        rw [e, if_neg]
        rintro (q | q)
        · rw [b.1] at q
          exact absurd q (by decide)
        · rw [b.2] at q
          exact hlt q
  · have b := a11 t ht
    rw [hk]
    have e : (lrn s i N).1 16 (5 * i + t) = (if s.1 16 (5 * i + t) = 0 ∨ s.1 17 (5 * i + t) < rse (rX (gR S i)) (mX M) t then 0 else 1) := by
      rw [lrn_a, if_neg (by omega), if_neg (by omega), if_pos (by omega), hv t ht]
    cases hk2 : kepE (gR S i) t with
    | none =>
      rw [hk2] at b
      rw [drp_n hk2]
      have b' : s.1 16 (5 * i + t) = 0 := b
      show (lrn s i N).1 16 (5 * i + t) = 0
      rw [e, if_pos (Or.inl b')]
    | some m =>
      rw [hk2] at b
      rw [drp_s hk2]
      obtain ⟨b1, b2, b3, b4, b5, b6⟩ := b
      split
      · rename_i hlt
        show (lrn s i N).1 16 (5 * i + t) = 0
        rw [e, if_pos (Or.inr (by rw [b2]; exact hlt))]
      · rename_i hlt
        refine ⟨?_, (sm 17 _ (by decide) (by decide) (by decide)).trans b2, (sm 18 _ (by decide) (by decide) (by decide)).trans b3, (sm 19 _ (by decide) (by decide) (by decide)).trans b4, (sm 20 _ (by decide) (by decide) (by decide)).trans b5, b6.mv (sm 2 _ (by decide) (by decide) (by decide)) (fun j k h1 h2 h3 => sm j _ (by omega) (by omega) (by omega))⟩
        rw [e, if_neg]
        rintro (q | q)
        · rw [b1] at q
          exact absurd q (by decide)
        · rw [b2] at q
          exact hlt q
theorem rel_new {R' : RS} (hN : N ≤ 5) (hi : i < N) (h : Rel N s S o) (h2 : s'.2 = s.2) (hs : ∀ j x, ¬ inR i j x → s'.1 j x = s.1 j x) (e6 : s'.1 6 i = rS R') (e7 : s'.1 7 i = rV R') (e8 : s'.1 8 i = rL R') (e9 : s'.1 9 i = rC R') (er : RowQ s' i (rG R')) (e10 : ∀ t, t < N → s'.1 10 (5 * i + t) = rX R' t) (e11 : ∀ t, t < N → s'.1 11 (5 * i + t) = rA R' t) (e12 : s'.1 12 i = rP R') (e13 : s'.1 13 i = rN R') (z14 : ∀ t, t < N → s'.1 14 (5 * i + t) = 0) (z16 : ∀ t, t < N → s'.1 16 (5 * i + t) = 0) (k1 : rO R' = noK) (k2 : kepE R' = noK) : Rel N s' (g_rep S i R') o := by
  refine h.rep hN hi h2 hs ⟨e6, e7, e8, e9, er, e10, e11, e12, e13, fun t ht => ?_, fun t ht => ?_⟩
  · rw [k1]
    exact z14 t ht
  · rw [k2]
    exact z16 t ht
theorem sp_Q_state (hB : QI B) (hN : N = 3 ∨ N = 5) (hi : i < N) (hR : Rel N s S (some M)) (hM : InvM N n M) (hn : n < 2 ^ 30) (hT : gT S < 2 ^ 29) : CS l D cid m_Q_state [.ref (B 0), .int (nI i)] (hQ f B N s) (PQ f B N none (g_state N S i M) (some M)) := by
  intro X hX
  obtain ⟨c1, c2, c3, c4, c5, c6, c7⟩ := msg_at hR
  obtain ⟨a1, a2, a3, a4, a5, a6, a7, a8, a9, a10, a11⟩ := hR.2.2.2.1 i hi
  have hml := c7.2.1
  have c71 : s.1 2 69 = nI (mG M).length := c7.1
  obtain ⟨vv, hvn, hve⟩ := hM.2.2.2.2.1
  have hprim : fmod (mV M) (nI N) = nI (vv % N) := by rw [hve, fm_N (by omega) hN]
  have hpn : vv % N < N := Nat.mod_lt _ (by omega)
  have hpd : prim N (mV M) = vv % N := by rw [prim, hprim]; exact nI_clamp (by omega)
  have hrem : s.1 24 64 - s.1 24 64 / nI N * nI N = nI (vv % N) := by rw [c3, hve, pk_rem (by omega) (by omega) (by omega)]
  have h74 : (fmod (mV M) (nI N) = nI i ∨ ¬ (rV (gR S i) < mV M ∨ (mV M = rV (gR S i) ∧ (rS (gR S i) = 1 ∨ nI (rG (gR S i)).length < nI (mG M).length)))) → ∀ x2 x3 bc bs, FR l D cid m_Q_state X 74 [some (.ref (B 0)), some (.int (nI i)), x2, x3] [] (hQ f B N s) bc bs := by
    intro hc x2 x3 bc bs
    refine b_Q_state_74 hX _ _ _ _ _ (i_ret ?_)
    refine ⟨rfl, s, rfl, ?_⟩
    rw [g_state]
    split
    · exact hR
    · rename_i hne
      rw [if_neg (hc.resolve_left hne)]
      exact hR
  have h59 : ∀ (b : Bool) (bc bs : Nat), b = decide (rV (gR S i) < mV M ∨ (mV M = rV (gR S i) ∧ (rS (gR S i) = 1 ∨ nI (rG (gR S i)).length < nI (mG M).length))) → FR l D cid m_Q_state X 59 [some (.ref (B 0)), some (.int (nI i)), some (.int (s.1 24 64)), none] [.int (bI b)] (hQ f B N s) bc bs := by
    intro b bc bs hb
    refine b_Q_state_59 hX _ _ _ _ _ (i_istore <| i_iload rfl <| i_aload rfl <| q_getf hB rfl <| i_binz (nN0 hN) <| i_iload rfl <| i_cmp ?_ ?_)
    · intro h
      rw [hrem] at h
      exact h74 (Or.inl (hprim.trans h)) _ _ _ _
    · intro h
      rw [hrem] at h
      have hne : ¬ fmod (mV M) (nI N) = nI i := fun q => h (hprim.symm.trans q)
      refine b_Q_state_70 hX _ _ _ _ _ (i_iload rfl <| i_ifbn ?_ ?_)
      · intro ht
        have hc := of_decide_eq_true (hb.symm.trans ht)
        have h140 : ∀ (x : Int32) (bc bs : Nat), x = mx (rC (gR S i)) (mC M) → FR l D cid m_Q_state X 140 [some (.ref (B 0)), some (.int (nI i)), some (.int (s.1 24 64)), some (.int (bI b))] [.int x, .int (nI i), .ref (B 9)] (hQ f B N (cp (qw (qw (qw s 6 i 0) 7 i (s.1 24 64)) 8 i (s.1 24 64)) 69 i (mG M).length)) bc bs := by
          intro x bc bs hx
          have rd : ∀ j y, (fg (qw (cp (qw (qw (qw s 6 i 0) 7 i (s.1 24 64)) 8 i (s.1 24 64)) 69 i (mG M).length) 9 i x) i 5).1 j y = if (j = 14 ∨ j = 16) ∧ 5 * i ≤ y ∧ y < 5 * i + 5 then 0 else if j = 9 ∧ y = i then x else if j = 2 ∧ y = i then s.1 2 69 else if (3 ≤ j ∧ j ≤ 5) ∧ 24 * i ≤ y ∧ y < 24 * i + (mG M).length then s.1 j (24 * 69 + (y - 24 * i)) else if j = 8 ∧ y = i then s.1 24 64 else if j = 7 ∧ y = i then s.1 24 64 else if j = 6 ∧ y = i then 0 else s.1 j y := fun j y => by
            rw [fg_a, qw_a, cp_a]
            by_cases q1 : (j = 14 ∨ j = 16) ∧ 5 * i ≤ y ∧ y < 5 * i + 5
            · rw [if_pos q1, if_pos q1]
            · rw [if_neg q1, if_neg q1]
              by_cases q2 : j = 9 ∧ y = i
              · rw [if_pos q2, if_pos q2]
              · rw [if_neg q2, if_neg q2]
                by_cases q3 : j = 2 ∧ y = i
                · rw [if_pos q3, if_pos q3, qw_a, if_neg (by omega), qw_a, if_neg (by omega), qw_a, if_neg (by omega)]
                · rw [if_neg q3, if_neg q3]
                  by_cases q4 : (3 ≤ j ∧ j ≤ 5) ∧ 24 * i ≤ y ∧ y < 24 * i + (mG M).length
                  · rw [if_pos q4, if_pos q4, qw_a, if_neg (by omega), qw_a, if_neg (by omega), qw_a, if_neg (by omega)]
                  · rw [if_neg q4, if_neg q4, qw_a, qw_a, qw_a]
          have hr1 : Rel N (fg (qw (cp (qw (qw (qw s 6 i 0) 7 i (s.1 24 64)) 8 i (s.1 24 64)) 69 i (mG M).length) 9 i x) i 5) (g_rep S i (r_normal (gR S i) (mV M) (mG M) x)) (some M) := by
            refine rel_new (by omega) hi hR rfl (fun j y hy => ?_) ?_ ?_ ?_ ?_ ⟨?_, hml, c7.2.2.mv (fun j k h1 h2 h3 => ?_)⟩ (fun t ht => ?_) (fun t ht => ?_) ?_ ?_ (fun t ht => ?_) (fun t ht => ?_) rfl rfl
            · unfold inR at hy
              rw [rd, if_neg (by omega), if_neg (by omega), if_neg (by omega), if_neg (by omega), if_neg (by omega), if_neg (by omega), if_neg (by omega)]
            · rw [rd, if_neg (by omega), if_neg (by omega), if_neg (by omega), if_neg (by omega), if_neg (by omega), if_neg (by omega), if_pos (by omega)]
              rfl
            · rw [rd, if_neg (by omega), if_neg (by omega), if_neg (by omega), if_neg (by omega), if_neg (by omega), if_pos (by omega)]
              exact c3
            · rw [rd, if_neg (by omega), if_neg (by omega), if_neg (by omega), if_neg (by omega), if_pos (by omega)]
              exact c3
            · rw [rd, if_neg (by omega), if_pos (by omega)]
              rfl
            · rw [rd, if_neg (by omega), if_neg (by omega), if_pos (by omega)]
              exact c71
            · have h3' : k < (mG M).length := h3
              rw [rd, if_neg (by omega), if_neg (by omega), if_neg (by omega), if_pos (by omega), show 24 * 69 + (24 * i + k - 24 * i) = 24 * (5 + 64) + k by omega]
            · rw [rd, if_neg (by omega), if_neg (by omega), if_neg (by omega), if_neg (by omega), if_neg (by omega), if_neg (by omega), if_neg (by omega)]
              exact a6 t ht
            · rw [rd, if_neg (by omega), if_neg (by omega), if_neg (by omega), if_neg (by omega), if_neg (by omega), if_neg (by omega), if_neg (by omega)]
              exact a7 t ht
            · rw [rd, if_neg (by omega), if_neg (by omega), if_neg (by omega), if_neg (by omega), if_neg (by omega), if_neg (by omega), if_neg (by omega)]
              exact a8
            · rw [rd, if_neg (by omega), if_neg (by omega), if_neg (by omega), if_neg (by omega), if_neg (by omega), if_neg (by omega), if_neg (by omega)]
              exact a9
            · rw [rd, if_pos (by omega)]
            · rw [rd, if_pos (by omega)]
          have hrow := (hr1.2.2.2.1 i hi).2.2.2.2.1
          refine b_Q_state_140 hX _ _ _ _ _ (q_ast (c := i) hB (by first | rfl | simp only [nn_1, nn_5, nn_6, nn_24, nn_64, nn_69, nn_70, nn_320, nn_1656, nI_mul, nI_add]) (by show _ < 5; omega) <| i_aload rfl <| i_iload rfl <| j_upV (q_this hB) (sp_Q_forget hB (by omega)) rfl rfl <| i_aload rfl <| i_iload rfl <| i_iload rfl <| i_aload rfl <| q_getf hB rfl <| i_binz (nN0 hN) <| i_push <| ?_)
          rw [hrem]
          refine j_upV (q_this hB) (sp_Q_send (d := vv % N) (what := 2) hB (by omega) hr1.1 (by show gT S < _; omega) hrow.1 hrow.2.1) rfl rfl ?_
          refine (i_ret ?_)
          refine ⟨rfl, _, rfl, ?_⟩
          rw [g_state, if_neg hne, if_pos hc, hpd, ← hx]
          exact rel_send (by omega) hi hr1
        refine b_Q_state_75 hX _ _ _ _ _ (i_aload rfl <| q_getf hB rfl <| i_iload rfl <| i_push <| q_ast (c := i) hB (by first | rfl | simp only [nn_1, nn_5, nn_6, nn_24, nn_64, nn_69, nn_70, nn_320, nn_1656, nI_mul, nI_add]) (by show _ < 5; omega) <| i_aload rfl <| q_getf hB rfl <| i_iload rfl <| i_iload rfl <| q_ast (c := i) hB (by first | rfl | simp only [nn_1, nn_5, nn_6, nn_24, nn_64, nn_69, nn_70, nn_320, nn_1656, nI_mul, nI_add]) (by show _ < 5; omega) <| i_aload rfl <| q_getf hB rfl <| i_iload rfl <| i_iload rfl <| q_ast (c := i) hB (by first | rfl | simp only [nn_1, nn_5, nn_6, nn_24, nn_64, nn_69, nn_70, nn_320, nn_1656, nI_mul, nI_add]) (by show _ < 5; omega) <| i_aload rfl <| i_push <| i_iload rfl <| ?_)
        refine j_upV (q_this hB) (sp_Q_copy (a := 69) (b := i) (L := (mG M).length) hB (by omega) (by omega) c71 hml) rfl rfl ?_
        have rdc : ∀ j y, ¬ (2 ≤ j ∧ j ≤ 8) → (cp (qw (qw (qw s 6 i 0) 7 i (s.1 24 64)) 8 i (s.1 24 64)) 69 i (mG M).length).1 j y = s.1 j y := fun j y hj => by
          rw [cp_a, if_neg (by omega), if_neg (by omega), qw_a, if_neg (by omega), qw_a, if_neg (by omega), qw_a, if_neg (by omega)]
        refine (i_aload rfl <| q_getf hB rfl <| i_iload rfl <| i_aload rfl <| q_getf hB rfl <| i_push <| q_ald (c := 64) hB (by first | rfl | simp only [nn_1, nn_5, nn_6, nn_24, nn_64, nn_69, nn_70, nn_320, nn_1656, nI_mul, nI_add]) (by show _ < 65; omega) <| i_aload rfl <| q_getf hB rfl <| i_iload rfl <| q_ald (c := i) hB (by first | rfl | simp only [nn_1, nn_5, nn_6, nn_24, nn_64, nn_69, nn_70, nn_320, nn_1656, nI_mul, nI_add]) (by show _ < 5; omega) <| i_cmp ?_ ?_)
        · intro hle
          rw [rdc _ _ (by omega), rdc _ _ (by omega), c5, a4] at hle
          refine b_Q_state_134 hX _ _ _ _ _ (i_aload rfl <| q_getf hB rfl <| i_iload rfl <| q_ald (c := i) hB (by first | rfl | simp only [nn_1, nn_5, nn_6, nn_24, nn_64, nn_69, nn_70, nn_320, nn_1656, nI_mul, nI_add]) (by show _ < 5; omega) <| i_end ?_)
          refine h140 _ _ _ ?_
          rw [rdc _ _ (by omega), a4, ← mx_le, if_pos hle]
        · intro hle
          rw [rdc _ _ (by omega), rdc _ _ (by omega), c5, a4] at hle
          refine b_Q_state_124 hX _ _ _ _ _ (i_aload rfl <| q_getf hB rfl <| i_push <| q_ald (c := 64) hB (by first | rfl | simp only [nn_1, nn_5, nn_6, nn_24, nn_64, nn_69, nn_70, nn_320, nn_1656, nI_mul, nI_add]) (by show _ < 65; omega) <| i_end ?_)
          refine h140 _ _ _ ?_
          rw [rdc _ _ (by omega), c5, ← mx_le, if_neg hle]
      · intro ht
        exact h74 (Or.inr (of_decide_eq_false (hb.symm.trans ht))) _ _ _ _
  refine b_Q_state_0 hX _ _ _ _ _ (i_aload rfl <| q_getf hB rfl <| i_push <| q_ald (c := 64) hB (by first | rfl | simp only [nn_1, nn_5, nn_6, nn_24, nn_64, nn_69, nn_70, nn_320, nn_1656, nI_mul, nI_add]) (by show _ < 65; omega) <| i_istore <| i_iload rfl <| i_aload rfl <| q_getf hB rfl <| i_iload rfl <| q_ald (c := i) hB (by first | rfl | simp only [nn_1, nn_5, nn_6, nn_24, nn_64, nn_69, nn_70, nn_320, nn_1656, nI_mul, nI_add]) (by show _ < 5; omega) <| i_cmp ?_ ?_)
  · intro h
    rw [c3, a2] at h
    refine b_Q_state_54 hX _ _ _ _ _ (i_push <| i_end ?_)
    exact h59 true _ _ (decide_eq_true (Or.inl h)).symm
  · intro h
    rw [c3, a2] at h
    refine b_Q_state_18 hX _ _ _ _ _ (i_iload rfl <| i_aload rfl <| q_getf hB rfl <| i_iload rfl <| q_ald (c := i) hB (by first | rfl | simp only [nn_1, nn_5, nn_6, nn_24, nn_64, nn_69, nn_70, nn_320, nn_1656, nI_mul, nI_add]) (by show _ < 5; omega) <| i_cmp ?_ ?_)
    · intro h'
      rw [c3, a2] at h'
      refine b_Q_state_58 hX _ _ _ _ _ (i_push <| i_end ?_)
      exact h59 false _ _ (decide_eq_false (fun q => q.elim h (fun z => h' z.1))).symm
    · intro h'
      have h'' := Classical.not_not.mp h'
      rw [c3, a2] at h''
      refine b_Q_state_28 hX _ _ _ _ _ (i_aload rfl <| q_getf hB rfl <| i_iload rfl <| q_ald (c := i) hB (by first | rfl | simp only [nn_1, nn_5, nn_6, nn_24, nn_64, nn_69, nn_70, nn_320, nn_1656, nI_mul, nI_add]) (by show _ < 5; omega) <| i_push <| i_cmp ?_ ?_)
      · intro h1
        rw [a1] at h1
        refine b_Q_state_54 hX _ _ _ _ _ (i_push <| i_end ?_)
        exact h59 true _ _ (decide_eq_true (Or.inr ⟨h'', Or.inl h1⟩)).symm
      · intro h1
        rw [a1] at h1
        refine b_Q_state_38 hX _ _ _ _ _ (i_aload rfl <| q_getf hB rfl <| i_push <| q_ald (c := 69) hB (by first | rfl | simp only [nn_1, nn_5, nn_6, nn_24, nn_64, nn_69, nn_70, nn_320, nn_1656, nI_mul, nI_add]) (by show _ < 95; omega) <| i_aload rfl <| q_getf hB rfl <| i_iload rfl <| q_ald (c := i) hB (by first | rfl | simp only [nn_1, nn_5, nn_6, nn_24, nn_64, nn_69, nn_70, nn_320, nn_1656, nI_mul, nI_add]) (by show _ < 95; omega) <| i_cmp ?_ ?_)
        · intro h2
          rw [c71, a5.1] at h2
          refine b_Q_state_58 hX _ _ _ _ _ (i_push <| i_end ?_)
          exact h59 false _ _ (decide_eq_false (fun q => q.elim h (fun z => z.2.elim h1 (Int32.not_lt.mpr h2)))).symm
        · intro h2
          rw [c71, a5.1] at h2
          refine b_Q_state_54 hX _ _ _ _ _ (i_push <| i_end ?_)
          exact h59 true _ _ (decide_eq_true (Or.inr ⟨h'', Or.inr (Int32.not_le.mp h2)⟩)).symm
end QSB
