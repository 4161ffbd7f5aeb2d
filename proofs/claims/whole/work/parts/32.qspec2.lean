section QSA
variable {l : Launch} {D : va_G} {cid : Nat → ClassId} {f : HF} {B : Nat → Nat} {N n i : Nat} {s : QS} {S : GS} {o : Option Msg} {M : Msg}
def PQ (f : HF) (B : Nat → Nat) (N : Nat) (w : Option Value) (S' : GS) (o : Option Msg) : PT := fun v f' => v = w ∧ ∃ s', f' = hQ f B N s' ∧ Rel N s' S' o
theorem sp_Q_sendAll {what : Int32} (hB : QI B) (hN : N = 3 ∨ N = 5) (hi : i < N) (hR : Rel N s S o) (hT : gT S < 2 ^ 29) : CS l D cid m_Q_sendAll [.ref (B 0), .int (nI i), .int what] (hQ f B N s) (PQ f B N none (g_all S i what N) o) := by
  intro X hX
  have loop : ∀ t, t ≤ N → ∀ s1, Rel N s1 (g_all S i what t) o → ∀ bc bs, FR l D cid m_Q_sendAll X 2 [some (.ref (B 0)), some (.int (nI i)), some (.int what), some (.int (nI t))] [] (hQ f B N s1) bc bs := by
    refine up_to ?_ ?_
    · intro s1 h1 bc bs
      refine b_Q_sendAll_2 hX _ _ _ _ _ (i_iload rfl <| i_aload rfl <| q_getf hB rfl <| i_cmp_t (Int32.le_refl _) ?_)
      refine b_Q_sendAll_28 hX _ _ _ _ _ (i_ret ?_)
      exact ⟨rfl, s1, rfl, h1⟩
    · intro t ht ih s1 h1 bc bs
      simp only [nI_succ] at ih
      have hTt := g_all_T S i what t
      refine b_Q_sendAll_2 hX _ _ _ _ _ (i_iload rfl <| i_aload rfl <| q_getf hB rfl <| i_cmp_f (nI_ge ht (by omega)) ?_)
      refine b_Q_sendAll_10 hX _ _ _ _ _ (i_iload rfl <| i_iload rfl <| i_cmp ?_ ?_)
      · intro he
        have he' : t = i := (nI_eq (by omega) (by omega)).mp he
        refine b_Q_sendAll_22 hX _ _ _ _ _ (i_iinc rfl <| i_end ?_)
        refine ih s1 ?_ _ _
        rw [g_all, if_pos he']
        exact h1
      · intro he
        have he' : ¬ t = i := fun q => he (congrArg nI q)
        have hrow := (h1.2.2.2.1 i hi).2.2.2.2.1
        refine b_Q_sendAll_15 hX _ _ _ _ _ (i_aload rfl <| i_iload rfl <| i_iload rfl <| i_iload rfl <| j_upV (q_this hB) (sp_Q_send (d := t) (what := what) hB (by omega) h1.1 (by omega) hrow.1 hrow.2.1) rfl rfl <| i_end ?_)
        refine b_Q_sendAll_22 hX _ _ _ _ _ (i_iinc rfl <| i_end ?_)
        refine ih _ ?_ _ _
        rw [g_all, if_neg he']
        exact rel_send (by omega) hi h1
  refine b_Q_sendAll_0 hX _ _ _ _ _ (i_push <| i_istore <| i_end ?_)
  exact loop 0 (Nat.zero_le _) s hR _ _
theorem rel_start {v : Int32} (hN : N ≤ 5) (hi : i < N) (h : Rel N s S o) : Rel N (qw (fg (qw (qw s 6 i 1) 7 i v) i 5) 12 i 0) (g_rep S i (r_start (gR S i) v)) o := by
  obtain ⟨a1, a2, a3, a4, a5, a6, a7, a8, a9, a10, a11⟩ := h.2.2.2.1 i hi
  have rd : ∀ j x, (qw (fg (qw (qw s 6 i 1) 7 i v) i 5) 12 i 0).1 j x = if j = 12 ∧ x = i then 0 else if (j = 14 ∨ j = 16) ∧ 5 * i ≤ x ∧ x < 5 * i + 5 then 0 else if j = 7 ∧ x = i then v else if j = 6 ∧ x = i then 1 else s.1 j x := fun j x => by simp only [qw_a, fg_a]
  have sm : ∀ j x, ¬ j = 12 → ¬ j = 14 → ¬ j = 16 → ¬ j = 7 → ¬ j = 6 → (qw (fg (qw (qw s 6 i 1) 7 i v) i 5) 12 i 0).1 j x = s.1 j x := fun j x b1 b2 b3 b4 b5 => by
    rw [rd, if_neg (fun q => b1 q.1), if_neg (fun q => q.1.elim b2 b3), if_neg (fun q => b4 q.1), if_neg (fun q => b5 q.1)]
  have z : ∀ j t, j = 14 ∨ j = 16 → t < N → (qw (fg (qw (qw s 6 i 1) 7 i v) i 5) 12 i 0).1 j (5 * i + t) = 0 := fun j t hj ht => by
    rw [rd, if_neg (by omega), if_pos (by omega)]
  refine h.rep hN hi rfl (fun j x hx => ?_) ⟨?_, ?_, ?_, ?_, ?_, fun t ht => ?_, fun t ht => ?_, ?_, ?_, fun t ht => ?_, fun t ht => ?_⟩
  · unfold inR at hx
    rw [rd, if_neg (by omega), if_neg (by omega), if_neg (by omega), if_neg (by omega)]
  · rw [rd, if_neg (by omega), if_neg (by omega), if_neg (by omega), if_pos (by omega)]
    rfl
  · rw [rd, if_neg (by omega), if_neg (by omega), if_pos (by omega)]
    rfl
  · exact (sm 8 i (by decide) (by decide) (by decide) (by decide) (by decide)).trans a3
  · exact (sm 9 i (by decide) (by decide) (by decide) (by decide) (by decide)).trans a4
  · exact a5.mv (sm 2 i (by decide) (by decide) (by decide) (by decide) (by decide)) (fun j k h1 h2 h3 => sm j _ (by omega) (by omega) (by omega) (by omega) (by omega))
  · exact (sm 10 _ (by decide) (by decide) (by decide) (by decide) (by decide)).trans (a6 t ht)
  · exact (sm 11 _ (by decide) (by decide) (by decide) (by decide) (by decide)).trans (a7 t ht)
  · rw [rd, if_pos (by omega)]
    rfl
  · exact (sm 13 _ (by decide) (by decide) (by decide) (by decide) (by decide)).trans a9
  · exact z 14 t (Or.inl rfl) ht
  · exact z 16 t (Or.inr rfl) ht
theorem rel_com {c : Int32} (hN : N ≤ 5) (hi : i < N) (h : Rel N s S o) : Rel N (qw s 9 i c) (g_rep S i (r_com (gR S i) c)) o := by
  obtain ⟨a1, a2, a3, a4, a5, a6, a7, a8, a9, a10, a11⟩ := h.2.2.2.1 i hi
  have sm : ∀ j x, ¬ j = 9 → (qw s 9 i c).1 j x = s.1 j x := fun j x b => by rw [qw_a, if_neg (fun q => b q.1)]
  refine h.rep hN hi rfl (fun j x hx => ?_) ⟨(sm 6 i (by decide)).trans a1, (sm 7 i (by decide)).trans a2, (sm 8 i (by decide)).trans a3, ?_, a5.mv (sm 2 i (by decide)) (fun j k h1 h2 h3 => sm j _ (by omega)), fun t ht => (sm 10 _ (by decide)).trans (a6 t ht), fun t ht => (sm 11 _ (by decide)).trans (a7 t ht), (sm 12 i (by decide)).trans a8, (sm 13 i (by decide)).trans a9, fun t ht => (a10 t ht).cg (sm 14 _ (by decide)) (sm 15 _ (by decide)), fun t ht => (a11 t ht).cg (fun j h1 h2 => sm j _ (by omega)) (fun es he => he.mv (sm 2 _ (by decide)) (fun j k h1 h2 h3 => sm j _ (by omega)))⟩
  · unfold inR at hx
    rw [qw_a, if_neg (by omega)]
  · rw [qw_a, if_pos ⟨rfl, rfl⟩]
    rfl
theorem app_a (s : QS) (row L : Nat) (c m v : Int32) (j x : Nat) : (app s row L c m v).1 j x = if j = 2 ∧ x = row then s.1 2 row + 1 else if j = 5 ∧ x = 24 * row + L then v else if j = 4 ∧ x = 24 * row + L then m else if j = 3 ∧ x = 24 * row + L then c else s.1 j x := by
  simp only [app, qw_a]
theorem rel_app {e : Ent} (hN : N ≤ 5) (hi : i < N) (h : Rel N s S o) (hL : (rG (gR S i)).length < 24) : Rel N (app s i (rG (gR S i)).length e.1 e.2.1 e.2.2) (g_rep S i (r_add (gR S i) e)) o := by
  obtain ⟨a1, a2, a3, a4, a5, a6, a7, a8, a9, a10, a11⟩ := h.2.2.2.1 i hi
  have sm : ∀ j x, ¬ (2 ≤ j ∧ j ≤ 5) → (app s i (rG (gR S i)).length e.1 e.2.1 e.2.2).1 j x = s.1 j x := fun j x b => by
    rw [app_a, if_neg (by omega), if_neg (by omega), if_neg (by omega), if_neg (by omega)]
  refine h.rep hN hi rfl (fun j x hx => ?_) ⟨(sm 6 i (by omega)).trans a1, (sm 7 i (by omega)).trans a2, (sm 8 i (by omega)).trans a3, (sm 9 i (by omega)).trans a4, ?_, fun t ht => (sm 10 _ (by omega)).trans (a6 t ht), fun t ht => (sm 11 _ (by omega)).trans (a7 t ht), (sm 12 i (by omega)).trans a8, (sm 13 i (by omega)).trans a9, fun t ht => (a10 t ht).cg (sm 14 _ (by omega)) (sm 15 _ (by omega)), fun t ht => (a11 t ht).cg (fun j h1 h2 => sm j _ (by omega)) (fun es he => he.mv ?_ (fun j k h1 h2 h3 => ?_))⟩
  · unfold inR at hx
    rw [app_a, if_neg (by omega), if_neg (by omega), if_neg (by omega), if_neg (by omega)]
  · refine ⟨?_, hL, ?_, ?_, ?_, a5.2.2.mv (fun j k h1 h2 h3 => ?_)⟩
    · rw [app_a, if_pos ⟨rfl, rfl⟩, a5.1]
      exact (nI_succ _).symm
    · rw [app_a, if_neg (by omega), if_neg (by omega), if_neg (by omega), if_pos ⟨rfl, rfl⟩]
    · rw [app_a, if_neg (by omega), if_neg (by omega), if_pos ⟨rfl, rfl⟩]
    · rw [app_a, if_neg (by omega), if_pos ⟨rfl, rfl⟩]
    · have h3' : k < (rG (gR S i)).length := h3
      rw [app_a, if_neg (by omega), if_neg (by omega), if_neg (by omega), if_neg (by omega)]
  · rw [app_a, if_neg (by omega), if_neg (by omega), if_neg (by omega), if_neg (by omega)]
  · rw [app_a, if_neg (by omega), if_neg (by omega), if_neg (by omega), if_neg (by omega)]
theorem sp_Q_start {v : Int32} (hB : QI B) (hN : N = 3 ∨ N = 5) (hi : i < N) (hR : Rel N s S o) (hT : gT S < 2 ^ 29) : CS l D cid m_Q_start [.ref (B 0), .int (nI i), .int v] (hQ f B N s) (PQ f B N none (g_start N S i v) o) := by
  intro X hX
  refine b_Q_start_0 hX _ _ _ _ _ (i_aload rfl <| q_getf hB rfl <| i_iload rfl <| i_push <| q_ast (c := i) hB (by first | rfl | simp only [nn_1, nn_5, nn_6, nn_24, nn_64, nn_69, nn_70, nn_320, nn_1656, nI_mul, nI_add]) (by show _ < 5; omega) <| i_aload rfl <| q_getf hB rfl <| i_iload rfl <| i_iload rfl <| q_ast (c := i) hB (by first | rfl | simp only [nn_1, nn_5, nn_6, nn_24, nn_64, nn_69, nn_70, nn_320, nn_1656, nI_mul, nI_add]) (by show _ < 5; omega) <| i_aload rfl <| i_iload rfl <| j_upV (q_this hB) (sp_Q_forget hB (by omega)) rfl rfl <| i_aload rfl <| q_getf hB rfl <| i_iload rfl <| i_push <| q_zst (c := i) hB (by first | rfl | simp only [nn_1, nn_5, nn_6, nn_24, nn_64, nn_69, nn_70, nn_320, nn_1656, nI_mul, nI_add]) (by show _ < 5; omega) <| i_aload rfl <| i_iload rfl <| i_push <| ?_)
  refine j_callV (q_this hB) (sp_Q_sendAll (what := 5) hB hN hi (rel_start (v := v) (by omega) hi hR) hT) rfl rfl ?_
  rintro w F' ⟨rfl, s', rfl, h'⟩
  refine (i_ret ?_)
  exact ⟨rfl, s', rfl, h'⟩
theorem msg_at (h : Rel N s S (some M)) : MsgQ s N 64 M := h.2.2.2.2.2 M rfl
theorem mn_le (x y : Int32) : (if y ≤ x then y else x) = mn x y := by
  unfold mn
  by_cases h : y < x
  · rw [if_pos h, if_pos (Int32.le_of_lt h)]
  · rw [if_neg h]
    by_cases h2 : y ≤ x
    · rw [if_pos h2]
      exact Int32.le_antisymm h2 (Int32.not_lt.mp h)
    · rw [if_neg h2]
theorem sp_Q_prepare (hB : QI B) (hN : N = 3 ∨ N = 5) (hi : i < N) (hR : Rel N s S (some M)) (hI : Inv N n S) (hM : InvM N n M) (hT : gT S < 2 ^ 29) : CS l D cid m_Q_prepare [.ref (B 0), .int (nI i), .int (nI (mS M))] (hQ f B N s) (PQ f B N none (g_prep S i M) (some M)) := by
  intro X hX
  obtain ⟨c1, c2, c3, c4, c5, c6, c7⟩ := msg_at hR
  obtain ⟨a1, a2, a3, a4, a5, a6, a7, a8, a9, a10, a11⟩ := hR.2.2.2.1 i hi
  have hms := hM.1
  have hml := c7.2.1
  have hrl := a5.2.1
  have c71 : s.1 2 69 = nI (mG M).length := c7.1
  refine b_Q_prepare_0 hX _ _ _ _ _ (i_aload rfl <| q_getf hB rfl <| i_push <| q_ald (c := 69) hB (by first | rfl | simp only [nn_1, nn_5, nn_6, nn_24, nn_64, nn_69, nn_70, nn_320, nn_1656, nI_mul, nI_add]) (by show _ < 95; omega) <| i_istore <| i_aload rfl <| q_getf hB rfl <| i_push <| q_ald (c := 64) hB (by first | rfl | simp only [nn_1, nn_5, nn_6, nn_24, nn_64, nn_69, nn_70, nn_320, nn_1656, nI_mul, nI_add]) (by show _ < 65; omega) <| i_aload rfl <| q_getf hB rfl <| i_iload rfl <| q_ald (c := i) hB (by first | rfl | simp only [nn_1, nn_5, nn_6, nn_24, nn_64, nn_69, nn_70, nn_320, nn_1656, nI_mul, nI_add]) (by show _ < 5; omega) <| i_cmp ?_ ?_)
  · intro h0
    rw [c3, a2] at h0
    have h0' : ¬ mV M < rV (gR S i) := Int32.not_lt.mpr h0
    have h62 : (¬ (mV M = rV (gR S i) ∧ rS (gR S i) = 0) ∨ nI (rG (gR S i)).length + 1 < nI (mG M).length) → ∀ x3 x4 bc bs, FR l D cid m_Q_prepare X 62 [some (.ref (B 0)), some (.int (nI i)), some (.int (nI (mS M))), x3, x4] [] (hQ f B N s) bc bs := by
      intro hc x3 x4 bc bs
      refine b_Q_prepare_62 hX _ _ _ _ _ (i_aload rfl <| i_iload rfl <| i_iload rfl <| i_push <| j_upV (q_this hB) (sp_Q_send (d := mS M) (what := 3) hB (by omega) hR.1 (by omega) a5.1 a5.2.1) rfl rfl <| i_ret ?_)
      refine ⟨rfl, _, rfl, ?_⟩
      rw [g_prep, if_neg h0', if_pos hc]
      exact rel_send (by omega) hi hR
    refine b_Q_prepare_25 hX _ _ _ _ _ (i_aload rfl <| q_getf hB rfl <| i_push <| q_ald (c := 64) hB (by first | rfl | simp only [nn_1, nn_5, nn_6, nn_24, nn_64, nn_69, nn_70, nn_320, nn_1656, nI_mul, nI_add]) (by show _ < 65; omega) <| i_aload rfl <| q_getf hB rfl <| i_iload rfl <| q_ald (c := i) hB (by first | rfl | simp only [nn_1, nn_5, nn_6, nn_24, nn_64, nn_69, nn_70, nn_320, nn_1656, nI_mul, nI_add]) (by show _ < 5; omega) <| i_cmp ?_ ?_)
    · intro h1
      rw [c3, a2] at h1
      exact h62 (Or.inl (fun q => Int32.lt_irrefl (q.1 ▸ h1))) _ _ _ _
    · intro h1
      rw [c3, a2] at h1
      have heq : mV M = rV (gR S i) := Int32.le_antisymm (Int32.not_lt.mp h1) h0
      refine b_Q_prepare_41 hX _ _ _ _ _ (i_aload rfl <| q_getf hB rfl <| i_iload rfl <| q_ald (c := i) hB (by first | rfl | simp only [nn_1, nn_5, nn_6, nn_24, nn_64, nn_69, nn_70, nn_320, nn_1656, nI_mul, nI_add]) (by show _ < 5; omega) <| i_if ?_ ?_)
      · intro h2
        rw [a1] at h2
        exact h62 (Or.inl (fun q => h2 q.2)) _ _ _ _
      · intro h2
        have h2' := Classical.not_not.mp h2
        rw [a1] at h2'
        refine b_Q_prepare_50 hX _ _ _ _ _ (i_iload rfl <| i_aload rfl <| q_getf hB rfl <| i_iload rfl <| q_ald (c := i) hB (by first | rfl | simp only [nn_1, nn_5, nn_6, nn_24, nn_64, nn_69, nn_70, nn_320, nn_1656, nI_mul, nI_add]) (by show _ < 95; omega) <| i_push <| i_bin <| i_cmp ?_ ?_)
        · intro h3
          rw [c71, a5.1] at h3
          have hc : ¬ (¬ (mV M = rV (gR S i) ∧ rS (gR S i) = 0) ∨ nI (rG (gR S i)).length + 1 < nI (mG M).length) := fun q => q.elim (fun z => z ⟨heq, h2'⟩) (fun z => Int32.not_lt.mpr h3 z)
          have h117 : ∀ (s1 : QS) (x3 x4 : Option Value) (bc bs : Nat), Rel N s1 (g_rep S i (r_put (gR S i) M)) (some M) → FR l D cid m_Q_prepare X 117 [some (.ref (B 0)), some (.int (nI i)), some (.int (nI (mS M))), x3, x4] [] (hQ f B N s1) bc bs := by
            intro s1 x3 x4 bc bs hr1
            obtain ⟨d1, d2, d3, d4, d5, d6, d7⟩ := msg_at hr1
            have hb := hr1.2.2.2.1 i hi
            rw [g_rep_R] at hb
            obtain ⟨b1, b2, b3, b4, b5, b6⟩ := hb
            have h178 : ∀ (x : Int32) (x4 : Option Value) (bc bs : Nat), x = mx (rC (gR S i)) (mn (mC M) (nI (rG (r_put (gR S i) M)).length)) → FR l D cid m_Q_prepare X 178 [some (.ref (B 0)), some (.int (nI i)), some (.int (nI (mS M))), x3, x4] [.int x, .int (nI i), .ref (B 9)] (hQ f B N s1) bc bs := by
              intro x x4 bc bs hx
              have hr2 := rel_com (c := x) (by omega) hi hr1
              rw [g_rep_R, g_rep_rep] at hr2
              have hrow := (hr2.2.2.2.1 i hi).2.2.2.2.1
              refine b_Q_prepare_178 hX _ _ _ _ _ (q_ast (c := i) hB (by first | rfl | simp only [nn_1, nn_5, nn_6, nn_24, nn_64, nn_69, nn_70, nn_320, nn_1656, nI_mul, nI_add]) (by show _ < 5; omega) <| i_aload rfl <| i_iload rfl <| i_iload rfl <| i_push <| j_upV (q_this hB) (sp_Q_send (d := mS M) (what := 2) hB (by omega) hr2.1 (by show gT S < _; omega) hrow.1 hrow.2.1) rfl rfl <| i_ret ?_)
              refine ⟨rfl, _, rfl, ?_⟩
              rw [g_prep, if_neg h0', if_neg hc, ← hx]
              exact rel_send (by omega) hi hr2
            have h149 : ∀ (x : Int32) (bc bs : Nat), x = mn (mC M) (nI (rG (r_put (gR S i) M)).length) → FR l D cid m_Q_prepare X 149 [some (.ref (B 0)), some (.int (nI i)), some (.int (nI (mS M))), x3, x4] [.int x] (hQ f B N s1) bc bs := by
              intro x bc bs hx
              refine b_Q_prepare_149 hX _ _ _ _ _ (i_istore <| i_aload rfl <| q_getf hB rfl <| i_iload rfl <| i_iload rfl <| i_aload rfl <| q_getf hB rfl <| i_iload rfl <| q_ald (c := i) hB (by first | rfl | simp only [nn_1, nn_5, nn_6, nn_24, nn_64, nn_69, nn_70, nn_320, nn_1656, nI_mul, nI_add]) (by show _ < 5; omega) <| i_cmp ?_ ?_)
              · intro h5
                refine b_Q_prepare_172 hX _ _ _ _ _ (i_aload rfl <| q_getf hB rfl <| i_iload rfl <| q_ald (c := i) hB (by first | rfl | simp only [nn_1, nn_5, nn_6, nn_24, nn_64, nn_69, nn_70, nn_320, nn_1656, nI_mul, nI_add]) (by show _ < 5; omega) <| i_end ?_)
                refine h178 _ _ _ _ ?_
                rw [← hx, mx, b4, r_put_C] at *
                rw [if_neg (Int32.not_lt.mpr h5)]
              · intro h5
                refine b_Q_prepare_167 hX _ _ _ _ _ (i_iload rfl <| i_end ?_)
                refine h178 _ _ _ _ ?_
                rw [b4, r_put_C] at h5
                rw [← hx, mx, if_pos (Int32.not_le.mp h5)]
            refine b_Q_prepare_117 hX _ _ _ _ _ (i_aload rfl <| q_getf hB rfl <| i_push <| q_ald (c := 64) hB (by first | rfl | simp only [nn_1, nn_5, nn_6, nn_24, nn_64, nn_69, nn_70, nn_320, nn_1656, nI_mul, nI_add]) (by show _ < 65; omega) <| i_aload rfl <| q_getf hB rfl <| i_iload rfl <| q_ald (c := i) hB (by first | rfl | simp only [nn_1, nn_5, nn_6, nn_24, nn_64, nn_69, nn_70, nn_320, nn_1656, nI_mul, nI_add]) (by show _ < 95; omega) <| i_cmp ?_ ?_)
            · intro h4
              rw [d5, b5.1] at h4
              refine b_Q_prepare_143 hX _ _ _ _ _ (i_aload rfl <| q_getf hB rfl <| i_iload rfl <| q_ald (c := i) hB (by first | rfl | simp only [nn_1, nn_5, nn_6, nn_24, nn_64, nn_69, nn_70, nn_320, nn_1656, nI_mul, nI_add]) (by show _ < 95; omega) <| i_end ?_)
              refine h149 _ _ _ ?_
              rw [b5.1, ← mn_le, if_pos h4]
            · intro h4
              rw [d5, b5.1] at h4
              refine b_Q_prepare_133 hX _ _ _ _ _ (i_aload rfl <| q_getf hB rfl <| i_push <| q_ald (c := 64) hB (by first | rfl | simp only [nn_1, nn_5, nn_6, nn_24, nn_64, nn_69, nn_70, nn_320, nn_1656, nI_mul, nI_add]) (by show _ < 65; omega) <| i_end ?_)
              refine h149 _ _ _ ?_
              rw [d5, ← mn_le, if_neg h4]
          refine b_Q_prepare_70 hX _ _ _ _ _ (i_iload rfl <| i_aload rfl <| q_getf hB rfl <| i_iload rfl <| q_ald (c := i) hB (by first | rfl | simp only [nn_1, nn_5, nn_6, nn_24, nn_64, nn_69, nn_70, nn_320, nn_1656, nI_mul, nI_add]) (by show _ < 95; omega) <| i_push <| i_bin <| i_cmp ?_ ?_)
          · intro h4
            rw [c71, a5.1] at h4
            refine h117 s _ _ _ _ ?_
            rw [r_put, if_neg h4, g_rep_id]
            exact hR
          · intro h4
            have h4' := Classical.not_not.mp h4
            rw [c71, a5.1] at h4'
            have hln : (mG M).length = (rG (gR S i)).length + 1 := (nI_eq (by omega) (by omega)).mp (h4'.trans (nI_succ _).symm)
            have hce : ∃ e es, mG M = e :: es ∧ es.length = (rG (gR S i)).length := by
              cases hg : mG M with
              | nil => rw [hg] at hln; simp at hln
              | cons e es => exact ⟨e, es, rfl, by rw [hg] at hln; simpa using hln⟩
            obtain ⟨e, es, hge, hle⟩ := hce
            have hcel := c7.2.2
            rw [hge] at hcel
            obtain ⟨k1, k2, k3, k4⟩ := hcel
            have hp : (1656 : Int32) + s.1 2 69 - 1 = nI (24 * (5 + 64) + es.length) := by
              rw [c71, hge]
              show (1656 : Int32) + nI (es.length + 1) - 1 = _
              rw [nn_1656, nI_add, show 1656 + (es.length + 1) = (1656 + es.length) + 1 by omega, nI_pred]
            refine b_Q_prepare_82 hX _ _ _ _ _ (i_push <| i_iload rfl <| i_bin <| i_push <| i_bin <| i_istore <| i_aload rfl <| i_iload rfl <| i_aload rfl <| q_getf hB rfl <| i_iload rfl <| q_ald (c := 24 * (5 + 64) + es.length) hB (hp) (by show _ < 2280; omega) <| i_aload rfl <| q_getf hB rfl <| i_iload rfl <| q_ald (c := 24 * (5 + 64) + es.length) hB (hp) (by show _ < 2280; omega) <| i_aload rfl <| q_getf hB rfl <| i_iload rfl <| q_ald (c := 24 * (5 + 64) + es.length) hB (hp) (by show _ < 2280; omega) <| ?_)
            rw [k1, k2, k3]
            refine j_upV (q_this hB) (sp_Q_append (L := (rG (gR S i)).length) hB (by omega) a5.1 (by omega)) rfl rfl ?_
            refine (i_end ?_)
            refine h117 _ _ _ _ _ ?_
            have e2 : r_put (gR S i) M = r_add (gR S i) e := by
              rw [r_put, if_pos h4', hge]
              rfl
            rw [e2]
            exact rel_app (by omega) hi hR (by omega)
        · intro h3
          rw [c71, a5.1] at h3
          exact h62 (Or.inr (Int32.not_le.mp h3)) _ _ _ _
  · intro h0
    rw [c3, a2] at h0
    refine b_Q_prepare_24 hX _ _ _ _ _ (i_ret ?_)
    refine ⟨rfl, s, rfl, ?_⟩
    rw [g_prep, if_pos (Int32.not_le.mp h0)]
    exact hR
end QSA
